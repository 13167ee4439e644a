set_option maxRecDepth 100000 in
set_option maxHeartbeats 4000000 in
theorem k_X5_isClock (l : Launch) (G : va_G) (cI cS cL : ClassId) (a : Int32) : Ct l G (tyl cI cS cL) yX5_isClock cX5_isClock 1 (some (Jvm.ClassFile.FieldType.boolean)) 0 0 0 0 [.int a] [].flatten (f_X5_isClock a) (fun u => some (.int (bI u))) (fun _ => [].flatten) := by
  refine Ct.of (by decide +kernel) (Nat.le_of_ble_eq_true rfl) ?_
  intro p e s m args below meth c A ls hx hb hr hml hw hown hlocks hin hK hN hP hD hS hA hl
  have hown : s.vm.findClass RX5 = some m.cls := hown
  have X : Cx p s m args c cX5_isClock 1 RX5 G (tyl cI cS cL) := ⟨hx, hb, hml, hown, hw, hK, hN⟩
  have hP : va_P G classes [].flatten s.heap := hP
  have hl : lv_has ls 1 [(0, .int a)] := hl
  generalize hQQ : MQ below _ args s 0 0 A = QQ
  refine lv_iload_n hx hb dX5_isClock_0 rfl (lv_at hl 0 rfl) ?_
  have hM_10 : ∀ (v_9 : Bool) (ls : Array Slot) (H : Heap) (locs : List Loc), v_9 = (if a < 0 then false else (if (8 : Int32) ≤ a then false else true)) → lv_has ls 1 [] → va_P G classes [].flatten H → va_D A [].flatten → va_S A s.heap H locs → W p l e ({ frames := 0, cells := 0, slots := 0, locals := 0 } : Room) s m args below meth c H locs 0 0 QQ (F0 m 15 ls [.int (bI v_9)]) := by
    intro v_9 ls H locs e_v_9 hl hP hD hS
    subst e_v_9
    rw [← hQQ]; exact W.zret (v := bI (if a < 0 then false else (if (8 : Int32) ≤ a then false else true))) hx hb hr (nar_b _) (ct_end (F := (f_X5_isClock a)) (u := (if a < 0 then false else (if (8 : Int32) ≤ a then false else true))) (rf := (fun u => some (.int (bI u)))) (wf := (fun _ => [].flatten)) rfl rfl hP hD hS) hS.2.2 dX5_isClock_15
  refine lv_if_lt (tgt := 14) hx hb dX5_isClock_1 (by decide) (fun c_1 => ?_) (fun c_1 => ?_)
  · refine lv_iconst (v := 0) hx hb dX5_isClock_14 (by decide) ?_
    exact hM_10 false _ _ _ (if_pos c_1).symm (lv_sub hl [] rfl) hP hD hS
  · refine lv_iload_n hx hb dX5_isClock_4 rfl (lv_at hl 0 rfl) ?_
    refine lv_bipush (v := 8) hx hb dX5_isClock_5 (by decide) ?_
    have hM_7 : ∀ (v_6 : Bool) (ls : Array Slot) (H : Heap) (locs : List Loc), v_6 = (if (8 : Int32) ≤ a then false else true) → lv_has ls 1 [] → va_P G classes [].flatten H → va_D A [].flatten → va_S A s.heap H locs → W p l e ({ frames := 0, cells := 0, slots := 0, locals := 0 } : Room) s m args below meth c H locs 0 0 QQ (F0 m 15 ls [.int (bI v_6)]) := by
      intro v_6 ls H locs e_v_6 hl hP hD hS
      subst e_v_6
      exact hM_10 (if (8 : Int32) ≤ a then false else true) _ _ _ (if_neg c_1).symm (lv_sub hl [] rfl) hP hD hS
    refine lv_icmp_ge (tgt := 14) hx hb dX5_isClock_7 (by decide) (fun c_3 => ?_) (fun c_3 => ?_)
    · refine lv_iconst (v := 0) hx hb dX5_isClock_14 (by decide) ?_
      exact hM_7 false _ _ _ (if_pos c_3).symm (lv_sub hl [] rfl) hP hD hS
    · refine lv_iconst (v := 1) hx hb dX5_isClock_10 (by decide) ?_
      refine lv_goto (tgt := 15) hx hb dX5_isClock_11 (by decide) ?_
      exact hM_7 true _ _ _ (if_neg c_3).symm (lv_sub hl [] rfl) hP hD hS
set_option maxRecDepth 100000 in
set_option maxHeartbeats 4000000 in
theorem k_X5_isBeam (l : Launch) (G : va_G) (cI cS cL : ClassId) (a : Int32) : Ct l G (tyl cI cS cL) yX5_isBeam cX5_isBeam 1 (some (Jvm.ClassFile.FieldType.boolean)) 0 0 0 0 [.int a] [].flatten (f_X5_isBeam a) (fun u => some (.int (bI u))) (fun _ => [].flatten) := by
  refine Ct.of (by decide +kernel) (Nat.le_of_ble_eq_true rfl) ?_
  intro p e s m args below meth c A ls hx hb hr hml hw hown hlocks hin hK hN hP hD hS hA hl
  have hown : s.vm.findClass RX5 = some m.cls := hown
  have X : Cx p s m args c cX5_isBeam 1 RX5 G (tyl cI cS cL) := ⟨hx, hb, hml, hown, hw, hK, hN⟩
  have hP : va_P G classes [].flatten s.heap := hP
  have hl : lv_has ls 1 [(0, .int a)] := hl
  generalize hQQ : MQ below _ args s 0 0 A = QQ
  refine lv_iload_n hx hb dX5_isBeam_0 rfl (lv_at hl 0 rfl) ?_
  have hM_10 : ∀ (v_9 : Bool) (ls : Array Slot) (H : Heap) (locs : List Loc), v_9 = (if a < 0 then false else (if (3 : Int32) ≤ a then false else true)) → lv_has ls 1 [] → va_P G classes [].flatten H → va_D A [].flatten → va_S A s.heap H locs → W p l e ({ frames := 0, cells := 0, slots := 0, locals := 0 } : Room) s m args below meth c H locs 0 0 QQ (F0 m 14 ls [.int (bI v_9)]) := by
    intro v_9 ls H locs e_v_9 hl hP hD hS
    subst e_v_9
    rw [← hQQ]; exact W.zret (v := bI (if a < 0 then false else (if (3 : Int32) ≤ a then false else true))) hx hb hr (nar_b _) (ct_end (F := (f_X5_isBeam a)) (u := (if a < 0 then false else (if (3 : Int32) ≤ a then false else true))) (rf := (fun u => some (.int (bI u)))) (wf := (fun _ => [].flatten)) rfl rfl hP hD hS) hS.2.2 dX5_isBeam_14
  refine lv_if_lt (tgt := 13) hx hb dX5_isBeam_1 (by decide) (fun c_1 => ?_) (fun c_1 => ?_)
  · refine lv_iconst (v := 0) hx hb dX5_isBeam_13 (by decide) ?_
    exact hM_10 false _ _ _ (if_pos c_1).symm (lv_sub hl [] rfl) hP hD hS
  · refine lv_iload_n hx hb dX5_isBeam_4 rfl (lv_at hl 0 rfl) ?_
    refine lv_iconst (v := 3) hx hb dX5_isBeam_5 (by decide) ?_
    have hM_7 : ∀ (v_6 : Bool) (ls : Array Slot) (H : Heap) (locs : List Loc), v_6 = (if (3 : Int32) ≤ a then false else true) → lv_has ls 1 [] → va_P G classes [].flatten H → va_D A [].flatten → va_S A s.heap H locs → W p l e ({ frames := 0, cells := 0, slots := 0, locals := 0 } : Room) s m args below meth c H locs 0 0 QQ (F0 m 14 ls [.int (bI v_6)]) := by
      intro v_6 ls H locs e_v_6 hl hP hD hS
      subst e_v_6
      exact hM_10 (if (3 : Int32) ≤ a then false else true) _ _ _ (if_neg c_1).symm (lv_sub hl [] rfl) hP hD hS
    refine lv_icmp_ge (tgt := 13) hx hb dX5_isBeam_6 (by decide) (fun c_3 => ?_) (fun c_3 => ?_)
    · refine lv_iconst (v := 0) hx hb dX5_isBeam_13 (by decide) ?_
      exact hM_7 false _ _ _ (if_pos c_3).symm (lv_sub hl [] rfl) hP hD hS
    · refine lv_iconst (v := 1) hx hb dX5_isBeam_9 (by decide) ?_
      refine lv_goto (tgt := 14) hx hb dX5_isBeam_10 (by decide) ?_
      exact hM_7 true _ _ _ (if_neg c_3).symm (lv_sub hl [] rfl) hP hD hS
set_option maxRecDepth 100000 in
set_option maxHeartbeats 4000000 in
theorem k_X5_isSetting (l : Launch) (G : va_G) (cI cS cL : ClassId) (a : Int32) : Ct l G (tyl cI cS cL) yX5_isSetting cX5_isSetting 1 (some (Jvm.ClassFile.FieldType.boolean)) 0 0 0 0 [.int a] [].flatten (f_X5_isSetting a) (fun u => some (.int (bI u))) (fun _ => [].flatten) := by
  refine Ct.of (by decide +kernel) (Nat.le_of_ble_eq_true rfl) ?_
  intro p e s m args below meth c A ls hx hb hr hml hw hown hlocks hin hK hN hP hD hS hA hl
  have hown : s.vm.findClass RX5 = some m.cls := hown
  have X : Cx p s m args c cX5_isSetting 1 RX5 G (tyl cI cS cL) := ⟨hx, hb, hml, hown, hw, hK, hN⟩
  have hP : va_P G classes [].flatten s.heap := hP
  have hl : lv_has ls 1 [(0, .int a)] := hl
  generalize hQQ : MQ below _ args s 0 0 A = QQ
  refine lv_iload_n hx hb dX5_isSetting_0 rfl (lv_at hl 0 rfl) ?_
  have hM_10 : ∀ (v_9 : Bool) (ls : Array Slot) (H : Heap) (locs : List Loc), v_9 = (if a < 0 then false else (if (3 : Int32) ≤ a then false else true)) → lv_has ls 1 [] → va_P G classes [].flatten H → va_D A [].flatten → va_S A s.heap H locs → W p l e ({ frames := 0, cells := 0, slots := 0, locals := 0 } : Room) s m args below meth c H locs 0 0 QQ (F0 m 14 ls [.int (bI v_9)]) := by
    intro v_9 ls H locs e_v_9 hl hP hD hS
    subst e_v_9
    rw [← hQQ]; exact W.zret (v := bI (if a < 0 then false else (if (3 : Int32) ≤ a then false else true))) hx hb hr (nar_b _) (ct_end (F := (f_X5_isSetting a)) (u := (if a < 0 then false else (if (3 : Int32) ≤ a then false else true))) (rf := (fun u => some (.int (bI u)))) (wf := (fun _ => [].flatten)) rfl rfl hP hD hS) hS.2.2 dX5_isSetting_14
  refine lv_if_lt (tgt := 13) hx hb dX5_isSetting_1 (by decide) (fun c_1 => ?_) (fun c_1 => ?_)
  · refine lv_iconst (v := 0) hx hb dX5_isSetting_13 (by decide) ?_
    exact hM_10 false _ _ _ (if_pos c_1).symm (lv_sub hl [] rfl) hP hD hS
  · refine lv_iload_n hx hb dX5_isSetting_4 rfl (lv_at hl 0 rfl) ?_
    refine lv_iconst (v := 3) hx hb dX5_isSetting_5 (by decide) ?_
    have hM_7 : ∀ (v_6 : Bool) (ls : Array Slot) (H : Heap) (locs : List Loc), v_6 = (if (3 : Int32) ≤ a then false else true) → lv_has ls 1 [] → va_P G classes [].flatten H → va_D A [].flatten → va_S A s.heap H locs → W p l e ({ frames := 0, cells := 0, slots := 0, locals := 0 } : Room) s m args below meth c H locs 0 0 QQ (F0 m 14 ls [.int (bI v_6)]) := by
      intro v_6 ls H locs e_v_6 hl hP hD hS
      subst e_v_6
      exact hM_10 (if (3 : Int32) ≤ a then false else true) _ _ _ (if_neg c_1).symm (lv_sub hl [] rfl) hP hD hS
    refine lv_icmp_ge (tgt := 13) hx hb dX5_isSetting_6 (by decide) (fun c_3 => ?_) (fun c_3 => ?_)
    · refine lv_iconst (v := 0) hx hb dX5_isSetting_13 (by decide) ?_
      exact hM_7 false _ _ _ (if_pos c_3).symm (lv_sub hl [] rfl) hP hD hS
    · refine lv_iconst (v := 1) hx hb dX5_isSetting_9 (by decide) ?_
      refine lv_goto (tgt := 14) hx hb dX5_isSetting_10 (by decide) ?_
      exact hM_7 true _ _ _ (if_neg c_3).symm (lv_sub hl [] rfl) hP hD hS
set_option maxRecDepth 100000 in
set_option maxHeartbeats 4000000 in
theorem k_X5_areTicksOfACall (l : Launch) (G : va_G) (cI cS cL : ClassId) (a : Int32) : Ct l G (tyl cI cS cL) yX5_areTicksOfACall cX5_areTicksOfACall 1 (some (Jvm.ClassFile.FieldType.boolean)) 0 0 0 0 [.int a] [].flatten (f_X5_areTicksOfACall a) (fun u => some (.int (bI u))) (fun _ => [].flatten) := by
  refine Ct.of (by decide +kernel) (Nat.le_of_ble_eq_true rfl) ?_
  intro p e s m args below meth c A ls hx hb hr hml hw hown hlocks hin hK hN hP hD hS hA hl
  have hown : s.vm.findClass RX5 = some m.cls := hown
  have X : Cx p s m args c cX5_areTicksOfACall 1 RX5 G (tyl cI cS cL) := ⟨hx, hb, hml, hown, hw, hK, hN⟩
  have hP : va_P G classes [].flatten s.heap := hP
  have hl : lv_has ls 1 [(0, .int a)] := hl
  generalize hQQ : MQ below _ args s 0 0 A = QQ
  refine lv_iload_n hx hb dX5_areTicksOfACall_0 rfl (lv_at hl 0 rfl) ?_
  refine lv_iconst (v := 1) hx hb dX5_areTicksOfACall_1 (by decide) ?_
  have hM_10 : ∀ (v_9 : Bool) (ls : Array Slot) (H : Heap) (locs : List Loc), v_9 = (if a < (1 : Int32) then false else (if (200 : Int32) < a then false else true)) → lv_has ls 1 [] → va_P G classes [].flatten H → va_D A [].flatten → va_S A s.heap H locs → W p l e ({ frames := 0, cells := 0, slots := 0, locals := 0 } : Room) s m args below meth c H locs 0 0 QQ (F0 m 17 ls [.int (bI v_9)]) := by
    intro v_9 ls H locs e_v_9 hl hP hD hS
    subst e_v_9
    rw [← hQQ]; exact W.zret (v := bI (if a < (1 : Int32) then false else (if (200 : Int32) < a then false else true))) hx hb hr (nar_b _) (ct_end (F := (f_X5_areTicksOfACall a)) (u := (if a < (1 : Int32) then false else (if (200 : Int32) < a then false else true))) (rf := (fun u => some (.int (bI u)))) (wf := (fun _ => [].flatten)) rfl rfl hP hD hS) hS.2.2 dX5_areTicksOfACall_17
  refine lv_icmp_lt (tgt := 16) hx hb dX5_areTicksOfACall_2 (by decide) (fun c_1 => ?_) (fun c_1 => ?_)
  · refine lv_iconst (v := 0) hx hb dX5_areTicksOfACall_16 (by decide) ?_
    exact hM_10 false _ _ _ (if_pos c_1).symm (lv_sub hl [] rfl) hP hD hS
  · refine lv_iload_n hx hb dX5_areTicksOfACall_5 rfl (lv_at hl 0 rfl) ?_
    refine lv_sipush (v := 200) hx hb dX5_areTicksOfACall_6 (by decide) ?_
    have hM_7 : ∀ (v_6 : Bool) (ls : Array Slot) (H : Heap) (locs : List Loc), v_6 = (if (200 : Int32) < a then false else true) → lv_has ls 1 [] → va_P G classes [].flatten H → va_D A [].flatten → va_S A s.heap H locs → W p l e ({ frames := 0, cells := 0, slots := 0, locals := 0 } : Room) s m args below meth c H locs 0 0 QQ (F0 m 17 ls [.int (bI v_6)]) := by
      intro v_6 ls H locs e_v_6 hl hP hD hS
      subst e_v_6
      exact hM_10 (if (200 : Int32) < a then false else true) _ _ _ (if_neg c_1).symm (lv_sub hl [] rfl) hP hD hS
    refine lv_icmp_gt (tgt := 16) hx hb dX5_areTicksOfACall_9 (by decide) (fun c_3 => ?_) (fun c_3 => ?_)
    · refine lv_iconst (v := 0) hx hb dX5_areTicksOfACall_16 (by decide) ?_
      exact hM_7 false _ _ _ (if_pos c_3).symm (lv_sub hl [] rfl) hP hD hS
    · refine lv_iconst (v := 1) hx hb dX5_areTicksOfACall_12 (by decide) ?_
      refine lv_goto (tgt := 17) hx hb dX5_areTicksOfACall_13 (by decide) ?_
      exact hM_7 true _ _ _ (if_neg c_3).symm (lv_sub hl [] rfl) hP hD hS
set_option maxRecDepth 100000 in
set_option maxHeartbeats 4000000 in
theorem k_X5_leastOfSetting (l : Launch) (G : va_G) (cI cS cL : ClassId) (a : Int32) : Ct l G (tyl cI cS cL) yX5_leastOfSetting cX5_leastOfSetting 1 (some (Jvm.ClassFile.FieldType.int)) 0 0 0 0 [.int a] [].flatten (f_X5_leastOfSetting a) (fun u => some (.int u)) (fun _ => [].flatten) := by
  refine Ct.of (by decide +kernel) (Nat.le_of_ble_eq_true rfl) ?_
  intro p e s m args below meth c A ls hx hb hr hml hw hown hlocks hin hK hN hP hD hS hA hl
  have hown : s.vm.findClass RX5 = some m.cls := hown
  have X : Cx p s m args c cX5_leastOfSetting 1 RX5 G (tyl cI cS cL) := ⟨hx, hb, hml, hown, hw, hK, hN⟩
  have hP : va_P G classes [].flatten s.heap := hP
  have hl : lv_has ls 1 [(0, .int a)] := hl
  generalize hQQ : MQ below _ args s 0 0 A = QQ
  refine lv_iload_n hx hb dX5_leastOfSetting_0 rfl (lv_at hl 0 rfl) ?_
  refine lv_iconst (v := 2) hx hb dX5_leastOfSetting_1 (by decide) ?_
  have hM_5 : ∀ (v_4 : Bool) (ls : Array Slot) (H : Heap) (locs : List Loc), v_4 = (if a = (2 : Int32) then true else false) → lv_has ls 1 [] → va_P G classes [].flatten H → va_D A [].flatten → va_S A s.heap H locs → W p l e ({ frames := 0, cells := 0, slots := 0, locals := 0 } : Room) s m args below meth c H locs 0 0 QQ (F0 m 10 ls [.int (bI v_4)]) := by
    intro v_4 ls H locs e_v_4 hl hP hD hS
    subst e_v_4
    rw [← hQQ]; exact W.iret hx hb hr (ct_end (F := (f_X5_leastOfSetting a)) (u := (bI (if a = (2 : Int32) then true else false))) (rf := (fun u => some (.int u))) (wf := (fun _ => [].flatten)) rfl rfl hP hD hS) hS.2.2 dX5_leastOfSetting_10
  refine iv_ne hx hb 9 dX5_leastOfSetting_2 (by decide) (fun c_1 => ?_) (fun c_1 => ?_)
  · refine lv_iconst (v := 0) hx hb dX5_leastOfSetting_9 (by decide) ?_
    exact hM_5 false _ _ _ (if_neg c_1).symm (lv_sub hl [] rfl) hP hD hS
  · refine lv_iconst (v := 1) hx hb dX5_leastOfSetting_5 (by decide) ?_
    refine lv_goto (tgt := 10) hx hb dX5_leastOfSetting_6 (by decide) ?_
    exact hM_5 true _ _ _ (if_pos c_1).symm (lv_sub hl [] rfl) hP hD hS
set_option maxRecDepth 100000 in
set_option maxHeartbeats 4000000 in
theorem k_X5_mostOfSetting (l : Launch) (G : va_G) (cI cS cL : ClassId) (a : Int32) : Ct l G (tyl cI cS cL) yX5_mostOfSetting cX5_mostOfSetting 1 (some (Jvm.ClassFile.FieldType.int)) 0 0 0 0 [.int a] [].flatten (f_X5_mostOfSetting a) (fun u => some (.int u)) (fun _ => [].flatten) := by
  refine Ct.of (by decide +kernel) (Nat.le_of_ble_eq_true rfl) ?_
  intro p e s m args below meth c A ls hx hb hr hml hw hown hlocks hin hK hN hP hD hS hA hl
  have hown : s.vm.findClass RX5 = some m.cls := hown
  have X : Cx p s m args c cX5_mostOfSetting 1 RX5 G (tyl cI cS cL) := ⟨hx, hb, hml, hown, hw, hK, hN⟩
  have hP : va_P G classes [].flatten s.heap := hP
  have hl : lv_has ls 1 [(0, .int a)] := hl
  generalize hQQ : MQ below _ args s 0 0 A = QQ
  refine lv_iload_n hx hb dX5_mostOfSetting_0 rfl (lv_at hl 0 rfl) ?_
  refine lv_iconst (v := 1) hx hb dX5_mostOfSetting_1 (by decide) ?_
  have hM_5 : ∀ (v_4 : Int32) (ls : Array Slot) (H : Heap) (locs : List Loc), v_4 = (if a = (1 : Int32) then (200 : Int32) else (50 : Int32)) → lv_has ls 1 [] → va_P G classes [].flatten H → va_D A [].flatten → va_S A s.heap H locs → W p l e ({ frames := 0, cells := 0, slots := 0, locals := 0 } : Room) s m args below meth c H locs 0 0 QQ (F0 m 13 ls [.int v_4]) := by
    intro v_4 ls H locs e_v_4 hl hP hD hS
    subst e_v_4
    rw [← hQQ]; exact W.iret hx hb hr (ct_end (F := (f_X5_mostOfSetting a)) (u := (if a = (1 : Int32) then (200 : Int32) else (50 : Int32))) (rf := (fun u => some (.int u))) (wf := (fun _ => [].flatten)) rfl rfl hP hD hS) hS.2.2 dX5_mostOfSetting_13
  refine iv_ne hx hb 11 dX5_mostOfSetting_2 (by decide) (fun c_1 => ?_) (fun c_1 => ?_)
  · refine lv_bipush (v := 50) hx hb dX5_mostOfSetting_11 (by decide) ?_
    exact hM_5 (50 : Int32) _ _ _ (if_neg c_1).symm (lv_sub hl [] rfl) hP hD hS
  · refine lv_sipush (v := 200) hx hb dX5_mostOfSetting_5 (by decide) ?_
    refine lv_goto (tgt := 13) hx hb dX5_mostOfSetting_8 (by decide) ?_
    exact hM_5 (200 : Int32) _ _ _ (if_pos c_1).symm (lv_sub hl [] rfl) hP hD hS
set_option maxRecDepth 100000 in
set_option maxHeartbeats 4000000 in
theorem k_X5_isPair (l : Launch) (G : va_G) (cI cS cL : ClassId) (a : Int32) (b : Int32) : Ct l G (tyl cI cS cL) yX5_isPair cX5_isPair 2 (some (Jvm.ClassFile.FieldType.boolean)) 1 20 0 0 [.int a, .int b] [].flatten (f_X5_isPair a b) (fun u => some (.int (bI u))) (fun _ => [].flatten) := by
  refine Ct.of (by decide +kernel) (Nat.le_of_ble_eq_true rfl) ?_
  intro p e s m args below meth c A ls hx hb hr hml hw hown hlocks hin hK hN hP hD hS hA hl
  have hown : s.vm.findClass RX5 = some m.cls := hown
  have X : Cx p s m args c cX5_isPair 2 RX5 G (tyl cI cS cL) := ⟨hx, hb, hml, hown, hw, hK, hN⟩
  have hP : va_P G classes [].flatten s.heap := hP
  have hl : lv_has ls 2 [(0, .int a), (1, .int b)] := hl
  generalize hQQ : MQ below _ args s 0 0 A = QQ
  refine lv_iload_n hx hb dX5_isPair_0 rfl (lv_at hl 0 rfl) ?_
  refine ct_callS (As := [.int a]) (rest := []) X hP hD hS hA (k_X5_isClock l G cI cS cL  a) cq_X5_isClock aw_349 ⟨Nat.le_of_ble_eq_true rfl, Nat.le_of_ble_eq_true rfl⟩ ([] : List Nat) (cs := []) rfl (by decide) (cs' := []) rfl rfl rfl hl.1 rfl (Nat.le_of_ble_eq_true rfl) dX5_isPair_1 ⟨Nat.zero_le _, Nat.zero_le _⟩ rfl (bs' := []) rfl (fun H locs hP hD hS => ?_)
  have hM_15 : ∀ (v_14 : Bool) (ls : Array Slot) (H : Heap) (locs : List Loc), v_14 = (if (f_X5_isClock a) = true then (if (f_X5_isClock b) = true then (if a = b then false else true) else false) else false) → lv_has ls 2 [] → va_P G classes [].flatten H → va_D A [].flatten → va_S A s.heap H locs → W p l e ({ frames := 1, cells := 0, slots := 0, locals := 20 } : Room) s m args below meth c H locs 0 0 QQ (F0 m 24 ls [.int (bI v_14)]) := by
    intro v_14 ls H locs e_v_14 hl hP hD hS
    subst e_v_14
    rw [← hQQ]; exact W.zret (v := bI (if (f_X5_isClock a) = true then (if (f_X5_isClock b) = true then (if a = b then false else true) else false) else false)) hx hb hr (nar_b _) (ct_end (F := (f_X5_isPair a b)) (u := (if (f_X5_isClock a) = true then (if (f_X5_isClock b) = true then (if a = b then false else true) else false) else false)) (rf := (fun u => some (.int (bI u)))) (wf := (fun _ => [].flatten)) rfl rfl hP hD hS) hS.2.2 dX5_isPair_24
  refine bv_ifeq hx hb (f_X5_isClock a) 23 dX5_isPair_4 (by decide) (fun c_1 => ?_) (fun c_1 => ?_)
  · refine lv_iconst (v := 0) hx hb dX5_isPair_23 (by decide) ?_
    exact hM_15 false _ _ _ (if_neg c_1).symm (lv_sub hl [] rfl) hP hD hS
  · refine lv_iload_n hx hb dX5_isPair_7 rfl (lv_at hl 1 rfl) ?_
    refine ct_callS (As := [.int b]) (rest := []) X hP hD hS hA (k_X5_isClock l G cI cS cL  b) cq_X5_isClock aw_349 ⟨Nat.le_of_ble_eq_true rfl, Nat.le_of_ble_eq_true rfl⟩ ([] : List Nat) (cs := []) rfl (by decide) (cs' := []) rfl rfl rfl hl.1 rfl (Nat.le_of_ble_eq_true rfl) dX5_isPair_8 ⟨Nat.zero_le _, Nat.zero_le _⟩ rfl (bs' := []) rfl (fun H locs hP hD hS => ?_)
    have hM_12 : ∀ (v_11 : Bool) (ls : Array Slot) (H : Heap) (locs : List Loc), v_11 = (if (f_X5_isClock b) = true then (if a = b then false else true) else false) → lv_has ls 2 [] → va_P G classes [].flatten H → va_D A [].flatten → va_S A s.heap H locs → W p l e ({ frames := 1, cells := 0, slots := 0, locals := 20 } : Room) s m args below meth c H locs 0 0 QQ (F0 m 24 ls [.int (bI v_11)]) := by
      intro v_11 ls H locs e_v_11 hl hP hD hS
      subst e_v_11
      exact hM_15 (if (f_X5_isClock b) = true then (if a = b then false else true) else false) _ _ _ (if_pos c_1).symm (lv_sub hl [] rfl) hP hD hS
    refine bv_ifeq hx hb (f_X5_isClock b) 23 dX5_isPair_11 (by decide) (fun c_3 => ?_) (fun c_3 => ?_)
    · refine lv_iconst (v := 0) hx hb dX5_isPair_23 (by decide) ?_
      exact hM_12 false _ _ _ (if_neg c_3).symm (lv_sub hl [] rfl) hP hD hS
    · refine lv_iload_n hx hb dX5_isPair_14 rfl (lv_at hl 0 rfl) ?_
      refine lv_iload_n hx hb dX5_isPair_15 rfl (lv_at hl 1 rfl) ?_
      have hM_9 : ∀ (v_8 : Bool) (ls : Array Slot) (H : Heap) (locs : List Loc), v_8 = (if a = b then false else true) → lv_has ls 2 [] → va_P G classes [].flatten H → va_D A [].flatten → va_S A s.heap H locs → W p l e ({ frames := 1, cells := 0, slots := 0, locals := 20 } : Room) s m args below meth c H locs 0 0 QQ (F0 m 24 ls [.int (bI v_8)]) := by
        intro v_8 ls H locs e_v_8 hl hP hD hS
        subst e_v_8
        exact hM_12 (if a = b then false else true) _ _ _ (if_pos c_3).symm (lv_sub hl [] rfl) hP hD hS
      refine lv_icmp_eq (tgt := 23) hx hb dX5_isPair_16 (by decide) (fun c_5 => ?_) (fun c_5 => ?_)
      · refine lv_iconst (v := 0) hx hb dX5_isPair_23 (by decide) ?_
        exact hM_9 false _ _ _ (if_pos c_5).symm (lv_sub hl [] rfl) hP hD hS
      · refine lv_iconst (v := 1) hx hb dX5_isPair_19 (by decide) ?_
        refine lv_goto (tgt := 24) hx hb dX5_isPair_20 (by decide) ?_
        exact hM_9 true _ _ _ (if_neg c_5).symm (lv_sub hl [] rfl) hP hD hS
set_option maxRecDepth 100000 in
set_option maxHeartbeats 4000000 in
theorem k_X5_hashWith (l : Launch) (G : va_G) (cI cS cL : ClassId) (a : Int64) (b : Int64) : Ct l G (tyl cI cS cL) yX5_hashWith cX5_hashWith 4 (some (Jvm.ClassFile.FieldType.long)) 0 0 0 0 [.long a, .long b] [].flatten (f_X5_hashWith a b) (fun u => some (.long u)) (fun _ => [].flatten) := by
  refine Ct.of (by decide +kernel) (Nat.le_of_ble_eq_true rfl) ?_
  intro p e s m args below meth c A ls hx hb hr hml hw hown hlocks hin hK hN hP hD hS hA hl
  have hown : s.vm.findClass RX5 = some m.cls := hown
  have X : Cx p s m args c cX5_hashWith 4 RX5 G (tyl cI cS cL) := ⟨hx, hb, hml, hown, hw, hK, hN⟩
  have hP : va_P G classes [].flatten s.heap := hP
  have hl : lv_has ls 4 [(0, .long a), (2, .long b)] := hl
  generalize hQQ : MQ below _ args s 0 0 A = QQ
  refine lv_ldc2 hx hb hown (hw _ aw_718) dX5_hashWith_0 ?_
  refine lv_lload_n hx hb dX5_hashWith_3 rfl (lv_at hl 0 rfl) ?_
  refine lv_lmul hx hb dX5_hashWith_4 ?_
  refine lv_lload_n hx hb dX5_hashWith_5 rfl (lv_at hl 1 rfl) ?_
  refine lv_ladd hx hb dX5_hashWith_6 ?_
  rw [← hQQ]; exact W.lret hx hb hr (ct_end (F := (f_X5_hashWith a b)) (u := (((31 : Int64) * a) + b)) (rf := (fun u => some (.long u))) (wf := (fun _ => [].flatten)) rfl rfl hP hD hS) hS.2.2 dX5_hashWith_7
set_option maxRecDepth 100000 in
set_option maxHeartbeats 4000000 in
theorem k_X4_goes (l : Launch) (G : va_G) (cI cS cL : ClassId) (q : Nat → Nat) (beams : Nat → Int32) (speeds : Nat → Int32) (phases : Nat → Int32) (springs : Nat → Int32) (strikes : Nat → Int32) (ways : Nat → Int32) (kickSums : Nat → Int32) (nearTicks : Nat → Int32) (gives : Nat → Int32) (settings : Nat → Int32) (ticks : Int32) (kicks : Int32) (strikeTicks : Int32) (pulls : Nat → Int32) (leaders : Nat → Int32) (k : Nat) (hk : k < 8) : Ct l G (tyl cI cS cL) yX4_goes cX4_goes 2 (some (Jvm.ClassFile.FieldType.boolean)) 0 0 0 0 [.ref (q 0), .int (nI k)] [stC q cI beams speeds phases springs strikes ways kickSums nearTicks gives settings ticks kicks strikeTicks pulls leaders].flatten (f_X4_goes springs k) (fun u => some (.int (bI u))) (fun _ => [stC q cI beams speeds phases springs strikes ways kickSums nearTicks gives settings ticks kicks strikeTicks pulls leaders].flatten) := by
  refine Ct.of (by decide +kernel) (Nat.le_of_ble_eq_true rfl) ?_
  intro p e s m args below meth c A ls hx hb hr hml hw hown hlocks hin hK hN hP hD hS hA hl
  have hown : s.vm.findClass RX4 = some m.cls := hown
  have X : Cx p s m args c cX4_goes 2 RX4 G (tyl cI cS cL) := ⟨hx, hb, hml, hown, hw, hK, hN⟩
  have hP : va_P G classes [stC q cI beams speeds phases springs strikes ways kickSums nearTicks gives settings ticks kicks strikeTicks pulls leaders].flatten s.heap := hP
  have hl : lv_has ls 2 [(0, .ref (q 0)), (1, .int (nI k))] := hl
  generalize hQQ : MQ below _ args s 0 0 A = QQ
  refine lv_aload_n hx hb dX4_goes_0 rfl (lv_at hl 0 rfl) ?_
  refine va_get (D := G) (ci := 2) (C := RX4) (T := TX4) (N := 15) hx hb hw in_X4 hown hK hP 0 rfl rfl 3 (by decide) (hw _ aw_71) (fun _ h9 => h9) rfl dX4_goes_1 ?_
  refine lv_iload_n hx hb dX4_goes_4 rfl (lv_at hl 1 rfl) ?_
  refine nv_iald hx hb hK hP 4 0 rfl rfl k (by omega) (by decide) dX4_goes_5 ?_
  have hM_5 : ∀ (v_4 : Bool) (ls : Array Slot) (H : Heap) (locs : List Loc), v_4 = (if (springs k) ≤ 0 then false else true) → lv_has ls 2 [] → va_P G classes [stC q cI beams speeds phases springs strikes ways kickSums nearTicks gives settings ticks kicks strikeTicks pulls leaders].flatten H → va_D A [stC q cI beams speeds phases springs strikes ways kickSums nearTicks gives settings ticks kicks strikeTicks pulls leaders].flatten → va_S A s.heap H locs → W p l e ({ frames := 0, cells := 0, slots := 0, locals := 0 } : Room) s m args below meth c H locs 0 0 QQ (F0 m 14 ls [.int (bI v_4)]) := by
    intro v_4 ls H locs e_v_4 hl hP hD hS
    subst e_v_4
    rw [← hQQ]; exact W.zret (v := bI (if (springs k) ≤ 0 then false else true)) hx hb hr (nar_b _) (ct_end (F := (f_X4_goes springs k)) (u := (if (springs k) ≤ 0 then false else true)) (rf := (fun u => some (.int (bI u)))) (wf := (fun _ => [stC q cI beams speeds phases springs strikes ways kickSums nearTicks gives settings ticks kicks strikeTicks pulls leaders].flatten)) rfl rfl hP hD hS) hS.2.2 dX4_goes_14
  refine lv_if_le (tgt := 13) hx hb dX4_goes_6 (by decide) (fun c_1 => ?_) (fun c_1 => ?_)
  · refine lv_iconst (v := 0) hx hb dX4_goes_13 (by decide) ?_
    exact hM_5 false _ _ _ (if_pos c_1).symm (lv_sub hl [] rfl) hP hD hS
  · refine lv_iconst (v := 1) hx hb dX4_goes_9 (by decide) ?_
    refine lv_goto (tgt := 14) hx hb dX4_goes_10 (by decide) ?_
    exact hM_5 true _ _ _ (if_neg c_1).symm (lv_sub hl [] rfl) hP hD hS
set_option maxRecDepth 100000 in
set_option maxHeartbeats 4000000 in
theorem k_X4_hangsOn (l : Launch) (G : va_G) (cI cS cL : ClassId) (q : Nat → Nat) (beams : Nat → Int32) (speeds : Nat → Int32) (phases : Nat → Int32) (springs : Nat → Int32) (strikes : Nat → Int32) (ways : Nat → Int32) (kickSums : Nat → Int32) (nearTicks : Nat → Int32) (gives : Nat → Int32) (settings : Nat → Int32) (ticks : Int32) (kicks : Int32) (strikeTicks : Int32) (pulls : Nat → Int32) (leaders : Nat → Int32) (k : Nat) (b : Int32) (hk : k < 8) : Ct l G (tyl cI cS cL) yX4_hangsOn cX4_hangsOn 3 (some (Jvm.ClassFile.FieldType.boolean)) 0 0 0 0 [.ref (q 0), .int (nI k), .int b] [stC q cI beams speeds phases springs strikes ways kickSums nearTicks gives settings ticks kicks strikeTicks pulls leaders].flatten (f_X4_hangsOn beams k b) (fun u => some (.int (bI u))) (fun _ => [stC q cI beams speeds phases springs strikes ways kickSums nearTicks gives settings ticks kicks strikeTicks pulls leaders].flatten) := by
  refine Ct.of (by decide +kernel) (Nat.le_of_ble_eq_true rfl) ?_
  intro p e s m args below meth c A ls hx hb hr hml hw hown hlocks hin hK hN hP hD hS hA hl
  have hown : s.vm.findClass RX4 = some m.cls := hown
  have X : Cx p s m args c cX4_hangsOn 3 RX4 G (tyl cI cS cL) := ⟨hx, hb, hml, hown, hw, hK, hN⟩
  have hP : va_P G classes [stC q cI beams speeds phases springs strikes ways kickSums nearTicks gives settings ticks kicks strikeTicks pulls leaders].flatten s.heap := hP
  have hl : lv_has ls 3 [(0, .ref (q 0)), (1, .int (nI k)), (2, .int b)] := hl
  generalize hQQ : MQ below _ args s 0 0 A = QQ
  refine lv_aload_n hx hb dX4_hangsOn_0 rfl (lv_at hl 0 rfl) ?_
  refine va_get (D := G) (ci := 2) (C := RX4) (T := TX4) (N := 15) hx hb hw in_X4 hown hK hP 0 rfl rfl 0 (by decide) (hw _ aw_66) (fun _ h9 => h9) rfl dX4_hangsOn_1 ?_
  refine lv_iload_n hx hb dX4_hangsOn_4 rfl (lv_at hl 1 rfl) ?_
  refine nv_iald hx hb hK hP 1 0 rfl rfl k (by omega) (by decide) dX4_hangsOn_5 ?_
  refine lv_iload_n hx hb dX4_hangsOn_6 rfl (lv_at hl 2 rfl) ?_
  have hM_5 : ∀ (v_4 : Bool) (ls : Array Slot) (H : Heap) (locs : List Loc), v_4 = (if (beams k) = b then true else false) → lv_has ls 3 [] → va_P G classes [stC q cI beams speeds phases springs strikes ways kickSums nearTicks gives settings ticks kicks strikeTicks pulls leaders].flatten H → va_D A [stC q cI beams speeds phases springs strikes ways kickSums nearTicks gives settings ticks kicks strikeTicks pulls leaders].flatten → va_S A s.heap H locs → W p l e ({ frames := 0, cells := 0, slots := 0, locals := 0 } : Room) s m args below meth c H locs 0 0 QQ (F0 m 15 ls [.int (bI v_4)]) := by
    intro v_4 ls H locs e_v_4 hl hP hD hS
    subst e_v_4
    rw [← hQQ]; exact W.zret (v := bI (if (beams k) = b then true else false)) hx hb hr (nar_b _) (ct_end (F := (f_X4_hangsOn beams k b)) (u := (if (beams k) = b then true else false)) (rf := (fun u => some (.int (bI u)))) (wf := (fun _ => [stC q cI beams speeds phases springs strikes ways kickSums nearTicks gives settings ticks kicks strikeTicks pulls leaders].flatten)) rfl rfl hP hD hS) hS.2.2 dX4_hangsOn_15
  refine iv_ne hx hb 14 dX4_hangsOn_7 (by decide) (fun c_1 => ?_) (fun c_1 => ?_)
  · refine lv_iconst (v := 0) hx hb dX4_hangsOn_14 (by decide) ?_
    exact hM_5 false _ _ _ (if_neg c_1).symm (lv_sub hl [] rfl) hP hD hS
  · refine lv_iconst (v := 1) hx hb dX4_hangsOn_10 (by decide) ?_
    refine lv_goto (tgt := 15) hx hb dX4_hangsOn_11 (by decide) ?_
    exact hM_5 true _ _ _ (if_pos c_1).symm (lv_sub hl [] rfl) hP hD hS
set_option maxRecDepth 100000 in
set_option maxHeartbeats 4000000 in
theorem k_X4_hangTogether (l : Launch) (G : va_G) (cI cS cL : ClassId) (q : Nat → Nat) (beams : Nat → Int32) (speeds : Nat → Int32) (phases : Nat → Int32) (springs : Nat → Int32) (strikes : Nat → Int32) (ways : Nat → Int32) (kickSums : Nat → Int32) (nearTicks : Nat → Int32) (gives : Nat → Int32) (settings : Nat → Int32) (ticks : Int32) (kicks : Int32) (strikeTicks : Int32) (pulls : Nat → Int32) (leaders : Nat → Int32) (k : Nat) (o : Nat) (hk : k < 8) (ho : o < 8) : Ct l G (tyl cI cS cL) yX4_hangTogether cX4_hangTogether 3 (some (Jvm.ClassFile.FieldType.boolean)) 0 0 0 0 [.ref (q 0), .int (nI k), .int (nI o)] [stC q cI beams speeds phases springs strikes ways kickSums nearTicks gives settings ticks kicks strikeTicks pulls leaders].flatten (f_X4_hangTogether beams k o) (fun u => some (.int (bI u))) (fun _ => [stC q cI beams speeds phases springs strikes ways kickSums nearTicks gives settings ticks kicks strikeTicks pulls leaders].flatten) := by
  refine Ct.of (by decide +kernel) (Nat.le_of_ble_eq_true rfl) ?_
  intro p e s m args below meth c A ls hx hb hr hml hw hown hlocks hin hK hN hP hD hS hA hl
  have hown : s.vm.findClass RX4 = some m.cls := hown
  have X : Cx p s m args c cX4_hangTogether 3 RX4 G (tyl cI cS cL) := ⟨hx, hb, hml, hown, hw, hK, hN⟩
  have hP : va_P G classes [stC q cI beams speeds phases springs strikes ways kickSums nearTicks gives settings ticks kicks strikeTicks pulls leaders].flatten s.heap := hP
  have hl : lv_has ls 3 [(0, .ref (q 0)), (1, .int (nI k)), (2, .int (nI o))] := hl
  generalize hQQ : MQ below _ args s 0 0 A = QQ
  refine lv_aload_n hx hb dX4_hangTogether_0 rfl (lv_at hl 0 rfl) ?_
  refine va_get (D := G) (ci := 2) (C := RX4) (T := TX4) (N := 15) hx hb hw in_X4 hown hK hP 0 rfl rfl 0 (by decide) (hw _ aw_66) (fun _ h9 => h9) rfl dX4_hangTogether_1 ?_
  refine lv_iload_n hx hb dX4_hangTogether_4 rfl (lv_at hl 1 rfl) ?_
  refine nv_iald hx hb hK hP 1 0 rfl rfl k (by omega) (by decide) dX4_hangTogether_5 ?_
  refine lv_aload_n hx hb dX4_hangTogether_6 rfl (lv_at hl 0 rfl) ?_
  refine va_get (D := G) (ci := 2) (C := RX4) (T := TX4) (N := 15) hx hb hw in_X4 hown hK hP 0 rfl rfl 0 (by decide) (hw _ aw_66) (fun _ h9 => h9) rfl dX4_hangTogether_7 ?_
  refine lv_iload_n hx hb dX4_hangTogether_10 rfl (lv_at hl 2 rfl) ?_
  refine nv_iald hx hb hK hP 1 0 rfl rfl o (by omega) (by decide) dX4_hangTogether_11 ?_
  have hM_5 : ∀ (v_4 : Bool) (ls : Array Slot) (H : Heap) (locs : List Loc), v_4 = (if (beams k) = (beams o) then true else false) → lv_has ls 3 [] → va_P G classes [stC q cI beams speeds phases springs strikes ways kickSums nearTicks gives settings ticks kicks strikeTicks pulls leaders].flatten H → va_D A [stC q cI beams speeds phases springs strikes ways kickSums nearTicks gives settings ticks kicks strikeTicks pulls leaders].flatten → va_S A s.heap H locs → W p l e ({ frames := 0, cells := 0, slots := 0, locals := 0 } : Room) s m args below meth c H locs 0 0 QQ (F0 m 20 ls [.int (bI v_4)]) := by
    intro v_4 ls H locs e_v_4 hl hP hD hS
    subst e_v_4
    rw [← hQQ]; exact W.zret (v := bI (if (beams k) = (beams o) then true else false)) hx hb hr (nar_b _) (ct_end (F := (f_X4_hangTogether beams k o)) (u := (if (beams k) = (beams o) then true else false)) (rf := (fun u => some (.int (bI u)))) (wf := (fun _ => [stC q cI beams speeds phases springs strikes ways kickSums nearTicks gives settings ticks kicks strikeTicks pulls leaders].flatten)) rfl rfl hP hD hS) hS.2.2 dX4_hangTogether_20
  refine iv_ne hx hb 19 dX4_hangTogether_12 (by decide) (fun c_1 => ?_) (fun c_1 => ?_)
  · refine lv_iconst (v := 0) hx hb dX4_hangTogether_19 (by decide) ?_
    exact hM_5 false _ _ _ (if_neg c_1).symm (lv_sub hl [] rfl) hP hD hS
  · refine lv_iconst (v := 1) hx hb dX4_hangTogether_15 (by decide) ?_
    refine lv_goto (tgt := 20) hx hb dX4_hangTogether_16 (by decide) ?_
    exact hM_5 true _ _ _ (if_pos c_1).symm (lv_sub hl [] rfl) hP hD hS
set_option maxRecDepth 100000 in
set_option maxHeartbeats 4000000 in
theorem k_X4_gapFrom (l : Launch) (G : va_G) (cI cS cL : ClassId) (q : Nat → Nat) (beams : Nat → Int32) (speeds : Nat → Int32) (phases : Nat → Int32) (springs : Nat → Int32) (strikes : Nat → Int32) (ways : Nat → Int32) (kickSums : Nat → Int32) (nearTicks : Nat → Int32) (gives : Nat → Int32) (settings : Nat → Int32) (ticks : Int32) (kicks : Int32) (strikeTicks : Int32) (pulls : Nat → Int32) (leaders : Nat → Int32) (k : Nat) (o : Nat) (hk : k < 8) (ho : o < 8) : Ct l G (tyl cI cS cL) yX4_gapFrom cX4_gapFrom 4 (some (Jvm.ClassFile.FieldType.int)) 0 0 0 0 [.ref (q 0), .int (nI k), .int (nI o)] [stC q cI beams speeds phases springs strikes ways kickSums nearTicks gives settings ticks kicks strikeTicks pulls leaders].flatten (f_X4_gapFrom phases k o) (fun u => some (.int u)) (fun _ => [stC q cI beams speeds phases springs strikes ways kickSums nearTicks gives settings ticks kicks strikeTicks pulls leaders].flatten) := by
  refine Ct.of (by decide +kernel) (Nat.le_of_ble_eq_true rfl) ?_
  intro p e s m args below meth c A ls hx hb hr hml hw hown hlocks hin hK hN hP hD hS hA hl
  have hown : s.vm.findClass RX4 = some m.cls := hown
  have X : Cx p s m args c cX4_gapFrom 4 RX4 G (tyl cI cS cL) := ⟨hx, hb, hml, hown, hw, hK, hN⟩
  have hP : va_P G classes [stC q cI beams speeds phases springs strikes ways kickSums nearTicks gives settings ticks kicks strikeTicks pulls leaders].flatten s.heap := hP
  have hl : lv_has ls 4 [(0, .ref (q 0)), (1, .int (nI k)), (2, .int (nI o))] := hl
  generalize hQQ : MQ below _ args s 0 0 A = QQ
  refine lv_aload_n hx hb dX4_gapFrom_0 rfl (lv_at hl 0 rfl) ?_
  refine va_get (D := G) (ci := 2) (C := RX4) (T := TX4) (N := 15) hx hb hw in_X4 hown hK hP 0 rfl rfl 2 (by decide) (hw _ aw_69) (fun _ h9 => h9) rfl dX4_gapFrom_1 ?_
  refine lv_iload_n hx hb dX4_gapFrom_4 rfl (lv_at hl 2 rfl) ?_
  refine nv_iald hx hb hK hP 3 0 rfl rfl o (by omega) (by decide) dX4_gapFrom_5 ?_
  refine lv_aload_n hx hb dX4_gapFrom_6 rfl (lv_at hl 0 rfl) ?_
  refine va_get (D := G) (ci := 2) (C := RX4) (T := TX4) (N := 15) hx hb hw in_X4 hown hK hP 0 rfl rfl 2 (by decide) (hw _ aw_69) (fun _ h9 => h9) rfl dX4_gapFrom_7 ?_
  refine lv_iload_n hx hb dX4_gapFrom_10 rfl (lv_at hl 1 rfl) ?_
  refine nv_iald hx hb hK hP 3 0 rfl rfl k (by omega) (by decide) dX4_gapFrom_11 ?_
  refine lv_isub hx hb dX4_gapFrom_12 ?_
  refine lv_istore_n (lv' := [(3, .int ((phases o) - (phases k))), (0, .ref (q 0)), (1, .int (nI k)), (2, .int (nI o))]) hx hb dX4_gapFrom_13 rfl hl (by decide) rfl (fun ls hl => ?_)
  refine lv_iload_n hx hb dX4_gapFrom_14 rfl (lv_at hl 0 rfl) ?_
  refine lv_sipush (v := 500) hx hb dX4_gapFrom_15 (by decide) ?_
  refine lv_icmp_lt (tgt := 27) hx hb dX4_gapFrom_18 (by decide) (fun c_1 => ?_) (fun c_1 => ?_)
  · refine lv_iload_n hx hb dX4_gapFrom_27 rfl (lv_at hl 0 rfl) ?_
    refine lv_sipush (v := -500) hx hb dX4_gapFrom_28 (by decide) ?_
    have hM_6 : ∀ (v_5 : Int32) (ls : Array Slot) (H : Heap) (locs : List Loc), v_5 = (if (-500 : Int32) ≤ ((phases o) - (phases k)) then ((phases o) - (phases k)) else (((phases o) - (phases k)) + (1000 : Int32))) → lv_has ls 4 [] → va_P G classes [stC q cI beams speeds phases springs strikes ways kickSums nearTicks gives settings ticks kicks strikeTicks pulls leaders].flatten H → va_D A [stC q cI beams speeds phases springs strikes ways kickSums nearTicks gives settings ticks kicks strikeTicks pulls leaders].flatten → va_S A s.heap H locs → W p l e ({ frames := 0, cells := 0, slots := 0, locals := 0 } : Room) s m args below meth c H locs 0 0 QQ (F0 m 43 ls [.int v_5]) := by
      intro v_5 ls H locs e_v_5 hl hP hD hS
      subst e_v_5
      rw [← hQQ]; exact W.iret hx hb hr (ct_end (F := (f_X4_gapFrom phases k o)) (u := (if (-500 : Int32) ≤ ((phases o) - (phases k)) then ((phases o) - (phases k)) else (((phases o) - (phases k)) + (1000 : Int32)))) (rf := (fun u => some (.int u))) (wf := (fun _ => [stC q cI beams speeds phases springs strikes ways kickSums nearTicks gives settings ticks kicks strikeTicks pulls leaders].flatten)) (by first | (unfold f_X4_gapFrom; rw [if_pos c_1]; first | done | rfl) | (unfold f_X4_gapFrom; simp only [if_pos c_1])) rfl hP hD hS) hS.2.2 dX4_gapFrom_43
    refine lv_icmp_ge (tgt := 42) hx hb dX4_gapFrom_31 (by decide) (fun c_2 => ?_) (fun c_2 => ?_)
    · refine lv_iload_n hx hb dX4_gapFrom_42 rfl (lv_at hl 0 rfl) ?_
      exact hM_6 ((phases o) - (phases k)) _ _ _ (if_pos c_2).symm (lv_sub hl [] rfl) hP hD hS
    · refine lv_iload_n hx hb dX4_gapFrom_34 rfl (lv_at hl 0 rfl) ?_
      refine lv_sipush (v := 1000) hx hb dX4_gapFrom_35 (by decide) ?_
      refine lv_iadd hx hb dX4_gapFrom_38 ?_
      refine lv_goto (tgt := 43) hx hb dX4_gapFrom_39 (by decide) ?_
      exact hM_6 (((phases o) - (phases k)) + (1000 : Int32)) _ _ _ (if_neg c_2).symm (lv_sub hl [] rfl) hP hD hS
  · refine lv_iload_n hx hb dX4_gapFrom_21 rfl (lv_at hl 0 rfl) ?_
    refine lv_sipush (v := 1000) hx hb dX4_gapFrom_22 (by decide) ?_
    refine lv_isub hx hb dX4_gapFrom_25 ?_
    rw [← hQQ]; exact W.iret hx hb hr (ct_end (F := (f_X4_gapFrom phases k o)) (u := (((phases o) - (phases k)) - (1000 : Int32))) (rf := (fun u => some (.int u))) (wf := (fun _ => [stC q cI beams speeds phases springs strikes ways kickSums nearTicks gives settings ticks kicks strikeTicks pulls leaders].flatten)) (by first | (unfold f_X4_gapFrom; rw [if_neg c_1]; first | done | rfl) | (unfold f_X4_gapFrom; simp only [if_neg c_1])) rfl hP hD hS) hS.2.2 dX4_gapFrom_26
set_option maxRecDepth 100000 in
set_option maxHeartbeats 4000000 in
theorem k_X4_areNear (l : Launch) (G : va_G) (cI cS cL : ClassId) (q : Nat → Nat) (beams : Nat → Int32) (speeds : Nat → Int32) (phases : Nat → Int32) (springs : Nat → Int32) (strikes : Nat → Int32) (ways : Nat → Int32) (kickSums : Nat → Int32) (nearTicks : Nat → Int32) (gives : Nat → Int32) (settings : Nat → Int32) (ticks : Int32) (kicks : Int32) (strikeTicks : Int32) (pulls : Nat → Int32) (leaders : Nat → Int32) (k : Nat) (o : Nat) (hk : k < 8) (ho : o < 8) : Ct l G (tyl cI cS cL) yX4_areNear cX4_areNear 3 (some (Jvm.ClassFile.FieldType.boolean)) 1 23 0 0 [.ref (q 0), .int (nI k), .int (nI o)] [stC q cI beams speeds phases springs strikes ways kickSums nearTicks gives settings ticks kicks strikeTicks pulls leaders].flatten (f_X4_areNear phases settings k o) (fun u => some (.int (bI u))) (fun _ => [stC q cI beams speeds phases springs strikes ways kickSums nearTicks gives settings ticks kicks strikeTicks pulls leaders].flatten) := by
  refine Ct.of (by decide +kernel) (Nat.le_of_ble_eq_true rfl) ?_
  intro p e s m args below meth c A ls hx hb hr hml hw hown hlocks hin hK hN hP hD hS hA hl
  have hown : s.vm.findClass RX4 = some m.cls := hown
  have X : Cx p s m args c cX4_areNear 3 RX4 G (tyl cI cS cL) := ⟨hx, hb, hml, hown, hw, hK, hN⟩
  have hP : va_P G classes [stC q cI beams speeds phases springs strikes ways kickSums nearTicks gives settings ticks kicks strikeTicks pulls leaders].flatten s.heap := hP
  have hl : lv_has ls 3 [(0, .ref (q 0)), (1, .int (nI k)), (2, .int (nI o))] := hl
  generalize hQQ : MQ below _ args s 0 0 A = QQ
  refine lv_aload_n hx hb dX4_areNear_0 rfl (lv_at hl 0 rfl) ?_
  refine lv_iload_n hx hb dX4_areNear_1 rfl (lv_at hl 1 rfl) ?_
  refine lv_iload_n hx hb dX4_areNear_2 rfl (lv_at hl 2 rfl) ?_
  refine ct_callV (As := [.int (nI k), .int (nI o)]) (rest := []) X hP hD hS hA (k_X4_gapFrom l G cI cS cL q beams speeds phases springs strikes ways kickSums nearTicks gives settings ticks kicks strikeTicks pulls leaders k o (by omega) (by omega)) cp_X4_gapFrom aw_384 ⟨Nat.le_of_ble_eq_true rfl, Nat.le_of_ble_eq_true rfl⟩ [0] (cs := [stC q cI beams speeds phases springs strikes ways kickSums nearTicks gives settings ticks kicks strikeTicks pulls leaders]) rfl (by decide) (cs' := [stC q cI beams speeds phases springs strikes ways kickSums nearTicks gives settings ticks kicks strikeTicks pulls leaders]) rfl rfl 2 rfl rfl (q0 := 0) rfl rfl hl.1 rfl (Nat.le_of_ble_eq_true rfl) dX4_areNear_3 ⟨Nat.zero_le _, Nat.zero_le _⟩ rfl (bs' := [stC q cI beams speeds phases springs strikes ways kickSums nearTicks gives settings ticks kicks strikeTicks pulls leaders]) rfl (fun H locs hP hD hS => ?_)
  refine va_mabs hx hb (hml.trans hl.1.symm) hown (hw _ aw_424) (hw _ aw_425) (hw _ aw_43) (hw _ aw_426) (Nat.le_of_ble_eq_true rfl) (Nat.le_of_ble_eq_true rfl) (Nat.zero_le _) (Nat.zero_le _) dX4_areNear_6 ?_
  refine lv_aload_n hx hb dX4_areNear_9 rfl (lv_at hl 0 rfl) ?_
  refine va_get (D := G) (ci := 2) (C := RX4) (T := TX4) (N := 15) hx hb hw in_X4 hown hK hP 0 rfl rfl 9 (by decide) (hw _ aw_80) (fun _ h9 => h9) rfl dX4_areNear_10 ?_
  refine lv_iconst (v := 1) hx hb dX4_areNear_13 (by decide) ?_
  refine nv_iald hx hb hK hP 10 0 rfl rfl 1 (by omega) (by decide) dX4_areNear_14 ?_
  have hM_5 : ∀ (v_4 : Bool) (ls : Array Slot) (H : Heap) (locs : List Loc), v_4 = (if (settings 1) < (if 0 ≤ (f_X4_gapFrom phases k o) then (f_X4_gapFrom phases k o) else 0 - (f_X4_gapFrom phases k o)) then false else true) → lv_has ls 3 [] → va_P G classes [stC q cI beams speeds phases springs strikes ways kickSums nearTicks gives settings ticks kicks strikeTicks pulls leaders].flatten H → va_D A [stC q cI beams speeds phases springs strikes ways kickSums nearTicks gives settings ticks kicks strikeTicks pulls leaders].flatten → va_S A s.heap H locs → W p l e ({ frames := 1, cells := 0, slots := 0, locals := 23 } : Room) s m args below meth c H locs 0 0 QQ (F0 m 23 ls [.int (bI v_4)]) := by
    intro v_4 ls H locs e_v_4 hl hP hD hS
    subst e_v_4
    rw [← hQQ]; exact W.zret (v := bI (if (settings 1) < (if 0 ≤ (f_X4_gapFrom phases k o) then (f_X4_gapFrom phases k o) else 0 - (f_X4_gapFrom phases k o)) then false else true)) hx hb hr (nar_b _) (ct_end (F := (f_X4_areNear phases settings k o)) (u := (if (settings 1) < (if 0 ≤ (f_X4_gapFrom phases k o) then (f_X4_gapFrom phases k o) else 0 - (f_X4_gapFrom phases k o)) then false else true)) (rf := (fun u => some (.int (bI u)))) (wf := (fun _ => [stC q cI beams speeds phases springs strikes ways kickSums nearTicks gives settings ticks kicks strikeTicks pulls leaders].flatten)) rfl rfl hP hD hS) hS.2.2 dX4_areNear_23
  refine lv_icmp_gt (tgt := 22) hx hb dX4_areNear_15 (by decide) (fun c_1 => ?_) (fun c_1 => ?_)
  · refine lv_iconst (v := 0) hx hb dX4_areNear_22 (by decide) ?_
    exact hM_5 false _ _ _ (if_pos c_1).symm (lv_sub hl [] rfl) hP hD hS
  · refine lv_iconst (v := 1) hx hb dX4_areNear_18 (by decide) ?_
    refine lv_goto (tgt := 23) hx hb dX4_areNear_19 (by decide) ?_
    exact hM_5 true _ _ _ (if_neg c_1).symm (lv_sub hl [] rfl) hP hD hS
set_option maxRecDepth 100000 in
set_option maxHeartbeats 4000000 in
theorem k_X4_areLocked (l : Launch) (G : va_G) (cI cS cL : ClassId) (q : Nat → Nat) (beams : Nat → Int32) (speeds : Nat → Int32) (phases : Nat → Int32) (springs : Nat → Int32) (strikes : Nat → Int32) (ways : Nat → Int32) (kickSums : Nat → Int32) (nearTicks : Nat → Int32) (gives : Nat → Int32) (settings : Nat → Int32) (ticks : Int32) (kicks : Int32) (strikeTicks : Int32) (pulls : Nat → Int32) (leaders : Nat → Int32) (k : Nat) (o : Nat) (hk : k < 8) (ho : o < 8) : Ct l G (tyl cI cS cL) yX4_areLocked cX4_areLocked 3 (some (Jvm.ClassFile.FieldType.boolean)) 0 0 0 0 [.ref (q 0), .int (nI k), .int (nI o)] [stC q cI beams speeds phases springs strikes ways kickSums nearTicks gives settings ticks kicks strikeTicks pulls leaders].flatten (f_X4_areLocked nearTicks settings k o) (fun u => some (.int (bI u))) (fun _ => [stC q cI beams speeds phases springs strikes ways kickSums nearTicks gives settings ticks kicks strikeTicks pulls leaders].flatten) := by
  refine Ct.of (by decide +kernel) (Nat.le_of_ble_eq_true rfl) ?_
  intro p e s m args below meth c A ls hx hb hr hml hw hown hlocks hin hK hN hP hD hS hA hl
  have hown : s.vm.findClass RX4 = some m.cls := hown
  have X : Cx p s m args c cX4_areLocked 3 RX4 G (tyl cI cS cL) := ⟨hx, hb, hml, hown, hw, hK, hN⟩
  have hP : va_P G classes [stC q cI beams speeds phases springs strikes ways kickSums nearTicks gives settings ticks kicks strikeTicks pulls leaders].flatten s.heap := hP
  have hl : lv_has ls 3 [(0, .ref (q 0)), (1, .int (nI k)), (2, .int (nI o))] := hl
  generalize hQQ : MQ below _ args s 0 0 A = QQ
  refine lv_aload_n hx hb dX4_areLocked_0 rfl (lv_at hl 0 rfl) ?_
  refine va_get (D := G) (ci := 2) (C := RX4) (T := TX4) (N := 15) hx hb hw in_X4 hown hK hP 0 rfl rfl 7 (by decide) (hw _ aw_77) (fun _ h9 => h9) rfl dX4_areLocked_1 ?_
  refine lv_iload_n hx hb dX4_areLocked_4 rfl (lv_at hl 1 rfl) ?_
  refine lv_bipush (v := 8) hx hb dX4_areLocked_5 (by decide) ?_
  refine nv_imul hx hb k 8 dX4_areLocked_7 ?_
  refine lv_iload_n hx hb dX4_areLocked_8 rfl (lv_at hl 2 rfl) ?_
  refine nv_iadd hx hb (k * 8) o dX4_areLocked_9 ?_
  refine nv_iald hx hb hK hP 8 0 rfl rfl ((k * 8) + o) (by omega) (by decide) dX4_areLocked_10 ?_
  refine lv_aload_n hx hb dX4_areLocked_11 rfl (lv_at hl 0 rfl) ?_
  refine va_get (D := G) (ci := 2) (C := RX4) (T := TX4) (N := 15) hx hb hw in_X4 hown hK hP 0 rfl rfl 9 (by decide) (hw _ aw_80) (fun _ h9 => h9) rfl dX4_areLocked_12 ?_
  refine lv_iconst (v := 2) hx hb dX4_areLocked_15 (by decide) ?_
  refine nv_iald hx hb hK hP 10 0 rfl rfl 2 (by omega) (by decide) dX4_areLocked_16 ?_
  have hM_5 : ∀ (v_4 : Bool) (ls : Array Slot) (H : Heap) (locs : List Loc), v_4 = (if (nearTicks ((k * 8) + o)) < (settings 2) then false else true) → lv_has ls 3 [] → va_P G classes [stC q cI beams speeds phases springs strikes ways kickSums nearTicks gives settings ticks kicks strikeTicks pulls leaders].flatten H → va_D A [stC q cI beams speeds phases springs strikes ways kickSums nearTicks gives settings ticks kicks strikeTicks pulls leaders].flatten → va_S A s.heap H locs → W p l e ({ frames := 0, cells := 0, slots := 0, locals := 0 } : Room) s m args below meth c H locs 0 0 QQ (F0 m 25 ls [.int (bI v_4)]) := by
    intro v_4 ls H locs e_v_4 hl hP hD hS
    subst e_v_4
    rw [← hQQ]; exact W.zret (v := bI (if (nearTicks ((k * 8) + o)) < (settings 2) then false else true)) hx hb hr (nar_b _) (ct_end (F := (f_X4_areLocked nearTicks settings k o)) (u := (if (nearTicks ((k * 8) + o)) < (settings 2) then false else true)) (rf := (fun u => some (.int (bI u)))) (wf := (fun _ => [stC q cI beams speeds phases springs strikes ways kickSums nearTicks gives settings ticks kicks strikeTicks pulls leaders].flatten)) rfl rfl hP hD hS) hS.2.2 dX4_areLocked_25
  refine lv_icmp_lt (tgt := 24) hx hb dX4_areLocked_17 (by decide) (fun c_1 => ?_) (fun c_1 => ?_)
  · refine lv_iconst (v := 0) hx hb dX4_areLocked_24 (by decide) ?_
    exact hM_5 false _ _ _ (if_pos c_1).symm (lv_sub hl [] rfl) hP hD hS
  · refine lv_iconst (v := 1) hx hb dX4_areLocked_20 (by decide) ?_
    refine lv_goto (tgt := 25) hx hb dX4_areLocked_21 (by decide) ?_
    exact hM_5 true _ _ _ (if_neg c_1).symm (lv_sub hl [] rfl) hP hD hS
set_option maxRecDepth 100000 in
set_option maxHeartbeats 4000000 in
theorem k_X4_whyNotLocked (l : Launch) (G : va_G) (cI cS cL : ClassId) (q : Nat → Nat) (beams : Nat → Int32) (speeds : Nat → Int32) (phases : Nat → Int32) (springs : Nat → Int32) (strikes : Nat → Int32) (ways : Nat → Int32) (kickSums : Nat → Int32) (nearTicks : Nat → Int32) (gives : Nat → Int32) (settings : Nat → Int32) (ticks : Int32) (kicks : Int32) (strikeTicks : Int32) (pulls : Nat → Int32) (leaders : Nat → Int32) (k : Nat) (o : Nat) (hk : k < 8) (ho : o < 8) : Ct l G (tyl cI cS cL) yX4_whyNotLocked cX4_whyNotLocked 3 (some (Jvm.ClassFile.FieldType.int)) 2 45 0 0 [.ref (q 0), .int (nI k), .int (nI o)] [stC q cI beams speeds phases springs strikes ways kickSums nearTicks gives settings ticks kicks strikeTicks pulls leaders].flatten (f_X4_whyNotLocked beams phases springs nearTicks settings k o) (fun u => some (.int u)) (fun _ => [stC q cI beams speeds phases springs strikes ways kickSums nearTicks gives settings ticks kicks strikeTicks pulls leaders].flatten) := by
  refine Ct.of (by decide +kernel) (Nat.le_of_ble_eq_true rfl) ?_
  intro p e s m args below meth c A ls hx hb hr hml hw hown hlocks hin hK hN hP hD hS hA hl
  have hown : s.vm.findClass RX4 = some m.cls := hown
  have X : Cx p s m args c cX4_whyNotLocked 3 RX4 G (tyl cI cS cL) := ⟨hx, hb, hml, hown, hw, hK, hN⟩
  have hP : va_P G classes [stC q cI beams speeds phases springs strikes ways kickSums nearTicks gives settings ticks kicks strikeTicks pulls leaders].flatten s.heap := hP
  have hl : lv_has ls 3 [(0, .ref (q 0)), (1, .int (nI k)), (2, .int (nI o))] := hl
  generalize hQQ : MQ below _ args s 0 0 A = QQ
  refine lv_aload_n hx hb dX4_whyNotLocked_0 rfl (lv_at hl 0 rfl) ?_
  refine lv_iload_n hx hb dX4_whyNotLocked_1 rfl (lv_at hl 1 rfl) ?_
  refine lv_iload_n hx hb dX4_whyNotLocked_2 rfl (lv_at hl 2 rfl) ?_
  refine ct_callV (As := [.int (nI k), .int (nI o)]) (rest := []) X hP hD hS hA (k_X4_areLocked l G cI cS cL q beams speeds phases springs strikes ways kickSums nearTicks gives settings ticks kicks strikeTicks pulls leaders k o (by omega) (by omega)) cp_X4_areLocked aw_306 ⟨Nat.le_of_ble_eq_true rfl, Nat.le_of_ble_eq_true rfl⟩ [0] (cs := [stC q cI beams speeds phases springs strikes ways kickSums nearTicks gives settings ticks kicks strikeTicks pulls leaders]) rfl (by decide) (cs' := [stC q cI beams speeds phases springs strikes ways kickSums nearTicks gives settings ticks kicks strikeTicks pulls leaders]) rfl rfl 2 rfl rfl (q0 := 0) rfl rfl hl.1 rfl (Nat.le_of_ble_eq_true rfl) dX4_whyNotLocked_3 ⟨Nat.zero_le _, Nat.zero_le _⟩ rfl (bs' := [stC q cI beams speeds phases springs strikes ways kickSums nearTicks gives settings ticks kicks strikeTicks pulls leaders]) rfl (fun H locs hP hD hS => ?_)
  refine bv_ifeq hx hb (f_X4_areLocked nearTicks settings k o) 11 dX4_whyNotLocked_6 (by decide) (fun c_1 => ?_) (fun c_1 => ?_)
  · refine lv_aload_n hx hb dX4_whyNotLocked_11 rfl (lv_at hl 0 rfl) ?_
    refine lv_iload_n hx hb dX4_whyNotLocked_12 rfl (lv_at hl 1 rfl) ?_
    refine ct_callV (As := [.int (nI k)]) (rest := []) X hP hD hS hA (k_X4_goes l G cI cS cL q beams speeds phases springs strikes ways kickSums nearTicks gives settings ticks kicks strikeTicks pulls leaders k (by omega)) cp_X4_goes aw_292 ⟨Nat.le_of_ble_eq_true rfl, Nat.le_of_ble_eq_true rfl⟩ [0] (cs := [stC q cI beams speeds phases springs strikes ways kickSums nearTicks gives settings ticks kicks strikeTicks pulls leaders]) rfl (by decide) (cs' := [stC q cI beams speeds phases springs strikes ways kickSums nearTicks gives settings ticks kicks strikeTicks pulls leaders]) rfl rfl 2 rfl rfl (q0 := 0) rfl rfl hl.1 rfl (Nat.le_of_ble_eq_true rfl) dX4_whyNotLocked_13 ⟨Nat.zero_le _, Nat.zero_le _⟩ rfl (bs' := [stC q cI beams speeds phases springs strikes ways kickSums nearTicks gives settings ticks kicks strikeTicks pulls leaders]) rfl (fun H locs hP hD hS => ?_)
    refine bv_ifeq hx hb (f_X4_goes springs k) 27 dX4_whyNotLocked_16 (by decide) (fun c_2 => ?_) (fun c_2 => ?_)
    · refine lv_iconst (v := 1) hx hb dX4_whyNotLocked_27 (by decide) ?_
      rw [← hQQ]; exact W.iret hx hb hr (ct_end (F := (f_X4_whyNotLocked beams phases springs nearTicks settings k o)) (u := (1 : Int32)) (rf := (fun u => some (.int u))) (wf := (fun _ => [stC q cI beams speeds phases springs strikes ways kickSums nearTicks gives settings ticks kicks strikeTicks pulls leaders].flatten)) (by first | (unfold f_X4_whyNotLocked; rw [if_neg c_1, if_neg c_2]; first | done | rfl) | (unfold f_X4_whyNotLocked; simp only [if_neg c_1, if_neg c_2])) rfl hP hD hS) hS.2.2 dX4_whyNotLocked_28
    · refine lv_aload_n hx hb dX4_whyNotLocked_19 rfl (lv_at hl 0 rfl) ?_
      refine lv_iload_n hx hb dX4_whyNotLocked_20 rfl (lv_at hl 2 rfl) ?_
      refine ct_callV (As := [.int (nI o)]) (rest := []) X hP hD hS hA (k_X4_goes l G cI cS cL q beams speeds phases springs strikes ways kickSums nearTicks gives settings ticks kicks strikeTicks pulls leaders o (by omega)) cp_X4_goes aw_292 ⟨Nat.le_of_ble_eq_true rfl, Nat.le_of_ble_eq_true rfl⟩ [0] (cs := [stC q cI beams speeds phases springs strikes ways kickSums nearTicks gives settings ticks kicks strikeTicks pulls leaders]) rfl (by decide) (cs' := [stC q cI beams speeds phases springs strikes ways kickSums nearTicks gives settings ticks kicks strikeTicks pulls leaders]) rfl rfl 2 rfl rfl (q0 := 0) rfl rfl hl.1 rfl (Nat.le_of_ble_eq_true rfl) dX4_whyNotLocked_21 ⟨Nat.zero_le _, Nat.zero_le _⟩ rfl (bs' := [stC q cI beams speeds phases springs strikes ways kickSums nearTicks gives settings ticks kicks strikeTicks pulls leaders]) rfl (fun H locs hP hD hS => ?_)
      refine bv_ifne hx hb (f_X4_goes springs o) 29 dX4_whyNotLocked_24 (by decide) (fun c_4 => ?_) (fun c_4 => ?_)
      · refine lv_aload_n hx hb dX4_whyNotLocked_29 rfl (lv_at hl 0 rfl) ?_
        refine lv_iload_n hx hb dX4_whyNotLocked_30 rfl (lv_at hl 1 rfl) ?_
        refine lv_iload_n hx hb dX4_whyNotLocked_31 rfl (lv_at hl 2 rfl) ?_
        refine ct_callV (As := [.int (nI k), .int (nI o)]) (rest := []) X hP hD hS hA (k_X4_hangTogether l G cI cS cL q beams speeds phases springs strikes ways kickSums nearTicks gives settings ticks kicks strikeTicks pulls leaders k o (by omega) (by omega)) cp_X4_hangTogether aw_416 ⟨Nat.le_of_ble_eq_true rfl, Nat.le_of_ble_eq_true rfl⟩ [0] (cs := [stC q cI beams speeds phases springs strikes ways kickSums nearTicks gives settings ticks kicks strikeTicks pulls leaders]) rfl (by decide) (cs' := [stC q cI beams speeds phases springs strikes ways kickSums nearTicks gives settings ticks kicks strikeTicks pulls leaders]) rfl rfl 2 rfl rfl (q0 := 0) rfl rfl hl.1 rfl (Nat.le_of_ble_eq_true rfl) dX4_whyNotLocked_32 ⟨Nat.zero_le _, Nat.zero_le _⟩ rfl (bs' := [stC q cI beams speeds phases springs strikes ways kickSums nearTicks gives settings ticks kicks strikeTicks pulls leaders]) rfl (fun H locs hP hD hS => ?_)
        refine bv_ifne hx hb (f_X4_hangTogether beams k o) 40 dX4_whyNotLocked_35 (by decide) (fun c_5 => ?_) (fun c_5 => ?_)
        · refine lv_aload_n hx hb dX4_whyNotLocked_40 rfl (lv_at hl 0 rfl) ?_
          refine lv_iload_n hx hb dX4_whyNotLocked_41 rfl (lv_at hl 1 rfl) ?_
          refine lv_iload_n hx hb dX4_whyNotLocked_42 rfl (lv_at hl 2 rfl) ?_
          refine ct_callV (As := [.int (nI k), .int (nI o)]) (rest := []) X hP hD hS hA (k_X4_areNear l G cI cS cL q beams speeds phases springs strikes ways kickSums nearTicks gives settings ticks kicks strikeTicks pulls leaders k o (by omega) (by omega)) cp_X4_areNear aw_420 ⟨Nat.le_of_ble_eq_true rfl, Nat.le_of_ble_eq_true rfl⟩ [0] (cs := [stC q cI beams speeds phases springs strikes ways kickSums nearTicks gives settings ticks kicks strikeTicks pulls leaders]) rfl (by decide) (cs' := [stC q cI beams speeds phases springs strikes ways kickSums nearTicks gives settings ticks kicks strikeTicks pulls leaders]) rfl rfl 2 rfl rfl (q0 := 0) rfl rfl hl.1 rfl (Nat.le_of_ble_eq_true rfl) dX4_whyNotLocked_43 ⟨Nat.zero_le _, Nat.zero_le _⟩ rfl (bs' := [stC q cI beams speeds phases springs strikes ways kickSums nearTicks gives settings ticks kicks strikeTicks pulls leaders]) rfl (fun H locs hP hD hS => ?_)
          have hM_10 : ∀ (v_9 : Int32) (ls : Array Slot) (H : Heap) (locs : List Loc), v_9 = (if (f_X4_areNear phases settings k o) = true then (4 : Int32) else (3 : Int32)) → lv_has ls 3 [] → va_P G classes [stC q cI beams speeds phases springs strikes ways kickSums nearTicks gives settings ticks kicks strikeTicks pulls leaders].flatten H → va_D A [stC q cI beams speeds phases springs strikes ways kickSums nearTicks gives settings ticks kicks strikeTicks pulls leaders].flatten → va_S A s.heap H locs → W p l e ({ frames := 2, cells := 0, slots := 0, locals := 45 } : Room) s m args below meth c H locs 0 0 QQ (F0 m 54 ls [.int v_9]) := by
            intro v_9 ls H locs e_v_9 hl hP hD hS
            subst e_v_9
            rw [← hQQ]; exact W.iret hx hb hr (ct_end (F := (f_X4_whyNotLocked beams phases springs nearTicks settings k o)) (u := (if (f_X4_areNear phases settings k o) = true then (4 : Int32) else (3 : Int32))) (rf := (fun u => some (.int u))) (wf := (fun _ => [stC q cI beams speeds phases springs strikes ways kickSums nearTicks gives settings ticks kicks strikeTicks pulls leaders].flatten)) (by first | (unfold f_X4_whyNotLocked; rw [if_neg c_1, if_pos c_2, if_pos c_4, if_pos c_5]; first | done | rfl) | (unfold f_X4_whyNotLocked; simp only [if_neg c_1, if_pos c_2, if_pos c_4, if_pos c_5])) rfl hP hD hS) hS.2.2 dX4_whyNotLocked_54
          refine bv_ifeq hx hb (f_X4_areNear phases settings k o) 53 dX4_whyNotLocked_46 (by decide) (fun c_6 => ?_) (fun c_6 => ?_)
          · refine lv_iconst (v := 3) hx hb dX4_whyNotLocked_53 (by decide) ?_
            exact hM_10 (3 : Int32) _ _ _ (if_neg c_6).symm (lv_sub hl [] rfl) hP hD hS
          · refine lv_iconst (v := 4) hx hb dX4_whyNotLocked_49 (by decide) ?_
            refine lv_goto (tgt := 54) hx hb dX4_whyNotLocked_50 (by decide) ?_
            exact hM_10 (4 : Int32) _ _ _ (if_pos c_6).symm (lv_sub hl [] rfl) hP hD hS
        · refine lv_iconst (v := 2) hx hb dX4_whyNotLocked_38 (by decide) ?_
          rw [← hQQ]; exact W.iret hx hb hr (ct_end (F := (f_X4_whyNotLocked beams phases springs nearTicks settings k o)) (u := (2 : Int32)) (rf := (fun u => some (.int u))) (wf := (fun _ => [stC q cI beams speeds phases springs strikes ways kickSums nearTicks gives settings ticks kicks strikeTicks pulls leaders].flatten)) (by first | (unfold f_X4_whyNotLocked; rw [if_neg c_1, if_pos c_2, if_pos c_4, if_neg c_5]; first | done | rfl) | (unfold f_X4_whyNotLocked; simp only [if_neg c_1, if_pos c_2, if_pos c_4, if_neg c_5])) rfl hP hD hS) hS.2.2 dX4_whyNotLocked_39
      · refine lv_iconst (v := 1) hx hb dX4_whyNotLocked_27 (by decide) ?_
        rw [← hQQ]; exact W.iret hx hb hr (ct_end (F := (f_X4_whyNotLocked beams phases springs nearTicks settings k o)) (u := (1 : Int32)) (rf := (fun u => some (.int u))) (wf := (fun _ => [stC q cI beams speeds phases springs strikes ways kickSums nearTicks gives settings ticks kicks strikeTicks pulls leaders].flatten)) (by first | (unfold f_X4_whyNotLocked; rw [if_neg c_1, if_pos c_2, if_neg c_4]; first | done | rfl) | (unfold f_X4_whyNotLocked; simp only [if_neg c_1, if_pos c_2, if_neg c_4])) rfl hP hD hS) hS.2.2 dX4_whyNotLocked_28
  · refine lv_iconst (v := 0) hx hb dX4_whyNotLocked_9 (by decide) ?_
    rw [← hQQ]; exact W.iret hx hb hr (ct_end (F := (f_X4_whyNotLocked beams phases springs nearTicks settings k o)) (u := (0 : Int32)) (rf := (fun u => some (.int u))) (wf := (fun _ => [stC q cI beams speeds phases springs strikes ways kickSums nearTicks gives settings ticks kicks strikeTicks pulls leaders].flatten)) (by first | (unfold f_X4_whyNotLocked; rw [if_pos c_1]; first | done | rfl) | (unfold f_X4_whyNotLocked; simp only [if_pos c_1])) rfl hP hD hS) hS.2.2 dX4_whyNotLocked_10
set_option maxRecDepth 100000 in
set_option maxHeartbeats 4000000 in
theorem k_X4_setTicksNear (l : Launch) (G : va_G) (cI cS cL : ClassId) (q : Nat → Nat) (beams : Nat → Int32) (speeds : Nat → Int32) (phases : Nat → Int32) (springs : Nat → Int32) (strikes : Nat → Int32) (ways : Nat → Int32) (kickSums : Nat → Int32) (nearTicks : Nat → Int32) (gives : Nat → Int32) (settings : Nat → Int32) (ticks : Int32) (kicks : Int32) (strikeTicks : Int32) (pulls : Nat → Int32) (leaders : Nat → Int32) (k : Nat) (o : Nat) (cnt : Int32) (hk : k < 8) (ho : o < 8) : Ct l G (tyl cI cS cL) yX4_setTicksNear cX4_setTicksNear 4 none 0 0 0 0 [.ref (q 0), .int (nI k), .int (nI o), .int cnt] [stC q cI beams speeds phases springs strikes ways kickSums nearTicks gives settings ticks kicks strikeTicks pulls leaders].flatten (f_X4_setTicksNear nearTicks k o cnt) (fun _ => none) (fun u => [stC q cI beams speeds phases springs strikes ways kickSums u gives settings ticks kicks strikeTicks pulls leaders].flatten) := by
  refine Ct.of (by decide +kernel) (Nat.le_of_ble_eq_true rfl) ?_
  intro p e s m args below meth c A ls hx hb hr hml hw hown hlocks hin hK hN hP hD hS hA hl
  have hown : s.vm.findClass RX4 = some m.cls := hown
  have X : Cx p s m args c cX4_setTicksNear 4 RX4 G (tyl cI cS cL) := ⟨hx, hb, hml, hown, hw, hK, hN⟩
  have hP : va_P G classes [stC q cI beams speeds phases springs strikes ways kickSums nearTicks gives settings ticks kicks strikeTicks pulls leaders].flatten s.heap := hP
  have hl : lv_has ls 4 [(0, .ref (q 0)), (1, .int (nI k)), (2, .int (nI o)), (3, .int cnt)] := hl
  generalize hQQ : MQ below _ args s 0 0 A = QQ
  refine lv_aload_n hx hb dX4_setTicksNear_0 rfl (lv_at hl 0 rfl) ?_
  refine va_get (D := G) (ci := 2) (C := RX4) (T := TX4) (N := 15) hx hb hw in_X4 hown hK hP 0 rfl rfl 7 (by decide) (hw _ aw_77) (fun _ h9 => h9) rfl dX4_setTicksNear_1 ?_
  refine lv_iload_n hx hb dX4_setTicksNear_4 rfl (lv_at hl 1 rfl) ?_
  refine lv_bipush (v := 8) hx hb dX4_setTicksNear_5 (by decide) ?_
  refine nv_imul hx hb k 8 dX4_setTicksNear_7 ?_
  refine lv_iload_n hx hb dX4_setTicksNear_8 rfl (lv_at hl 2 rfl) ?_
  refine nv_iadd hx hb (k * 8) o dX4_setTicksNear_9 ?_
  refine lv_iload_n hx hb dX4_setTicksNear_10 rfl (lv_at hl 3 rfl) ?_
  refine nv_iast hx hb hK hP hD hS 8 0 rfl rfl ((k * 8) + o) (by omega) (by decide) dX4_setTicksNear_11 (ws' := [stC q cI beams speeds phases springs strikes ways kickSums (upd nearTicks ((k * 8) + o) cnt) gives settings ticks kicks strikeTicks pulls leaders].flatten) rfl (fun H locs hP hD hS => ?_)
  refine lv_aload_n hx hb dX4_setTicksNear_12 rfl (lv_at hl 0 rfl) ?_
  refine va_get (D := G) (ci := 2) (C := RX4) (T := TX4) (N := 15) hx hb hw in_X4 hown hK hP 0 rfl rfl 7 (by decide) (hw _ aw_77) (fun _ h9 => h9) rfl dX4_setTicksNear_13 ?_
  refine lv_iload_n hx hb dX4_setTicksNear_16 rfl (lv_at hl 2 rfl) ?_
  refine lv_bipush (v := 8) hx hb dX4_setTicksNear_17 (by decide) ?_
  refine nv_imul hx hb o 8 dX4_setTicksNear_19 ?_
  refine lv_iload_n hx hb dX4_setTicksNear_20 rfl (lv_at hl 1 rfl) ?_
  refine nv_iadd hx hb (o * 8) k dX4_setTicksNear_21 ?_
  refine lv_iload_n hx hb dX4_setTicksNear_22 rfl (lv_at hl 3 rfl) ?_
  refine nv_iast hx hb hK hP hD hS 8 0 rfl rfl ((o * 8) + k) (by omega) (by decide) dX4_setTicksNear_23 (ws' := [stC q cI beams speeds phases springs strikes ways kickSums (upd (upd nearTicks ((k * 8) + o) cnt) ((o * 8) + k) cnt) gives settings ticks kicks strikeTicks pulls leaders].flatten) rfl (fun H locs hP hD hS => ?_)
  rw [← hQQ]; exact W.vret hx hb hr (ct_end (F := (f_X4_setTicksNear nearTicks k o cnt)) (u := (upd (upd nearTicks ((k * 8) + o) cnt) ((o * 8) + k) cnt)) (rf := (fun _ => none)) (wf := (fun u => [stC q cI beams speeds phases springs strikes ways kickSums u gives settings ticks kicks strikeTicks pulls leaders].flatten)) rfl rfl hP hD hS) hS.2.2 dX4_setTicksNear_24
set_option maxRecDepth 100000 in
set_option maxHeartbeats 4000000 in
theorem k_X4_lookAtPairs (l : Launch) (G : va_G) (cI cS cL : ClassId) (q : Nat → Nat) (beams : Nat → Int32) (speeds : Nat → Int32) (phases : Nat → Int32) (springs : Nat → Int32) (strikes : Nat → Int32) (ways : Nat → Int32) (kickSums : Nat → Int32) (nearTicks : Nat → Int32) (gives : Nat → Int32) (settings : Nat → Int32) (ticks : Int32) (kicks : Int32) (strikeTicks : Int32) (pulls : Nat → Int32) (leaders : Nat → Int32) : Ct l G (tyl cI cS cL) yX4_lookAtPairs cX4_lookAtPairs 4 none 2 45 0 0 [.ref (q 0)] [stC q cI beams speeds phases springs strikes ways kickSums nearTicks gives settings ticks kicks strikeTicks pulls leaders].flatten (f_X4_lookAtPairs beams phases springs nearTicks settings) (fun _ => none) (fun u => [stC q cI beams speeds phases springs strikes ways kickSums u gives settings ticks kicks strikeTicks pulls leaders].flatten) := by
  refine Ct.of (by decide +kernel) (Nat.le_of_ble_eq_true rfl) ?_
  intro p e s m args below meth c A ls hx hb hr hml hw hown hlocks hin hK hN hP hD hS hA hl
  have hown : s.vm.findClass RX4 = some m.cls := hown
  have X : Cx p s m args c cX4_lookAtPairs 4 RX4 G (tyl cI cS cL) := ⟨hx, hb, hml, hown, hw, hK, hN⟩
  have hP : va_P G classes [stC q cI beams speeds phases springs strikes ways kickSums nearTicks gives settings ticks kicks strikeTicks pulls leaders].flatten s.heap := hP
  have hl : lv_has ls 4 [(0, .ref (q 0))] := hl
  generalize hQQ : MQ below _ args s 0 0 A = QQ
  refine lv_iconst (v := 0) hx hb dX4_lookAtPairs_0 (by decide) ?_
  refine lv_istore_n (lv' := [(1, .int (0 : Int32)), (0, .ref (q 0))]) hx hb dX4_lookAtPairs_1 rfl hl (by decide) rfl (fun ls hl => ?_)
  refine it_loop (f := (L_X4_lookAtPairs_2 beams phases springs settings)) 8 (fun (i2 : Nat) (s2 : (Nat → Int32)) => ∀ (ls : Array Slot) (H : Heap) (locs : List Loc), lv_has ls 4 [(1, .int (nI i2)), (0, .ref (q 0))] → va_P G classes [stC q cI beams speeds phases springs strikes ways kickSums s2 gives settings ticks kicks strikeTicks pulls leaders].flatten H → va_D A [stC q cI beams speeds phases springs strikes ways kickSums s2 gives settings ticks kicks strikeTicks pulls leaders].flatten → va_S A s.heap H locs → W p l e ({ frames := 2, cells := 0, slots := 0, locals := 45 } : Room) s m args below meth c H locs 0 0 QQ (F0 m 2 ls [])) (fun i2 s2 hi2 ih => ?_) 8 0 nearTicks (by omega) ?_ ls _ _ (lv_sub hl [0, 1] rfl) hP hD hS
  · intro ls H locs hl hP hD hS
    refine lv_iload_n hx hb dX4_lookAtPairs_2 rfl (lv_at hl 0 rfl) ?_
    refine lv_bipush (v := 8) hx hb dX4_lookAtPairs_3 (by decide) ?_
    refine nv_ge hx hb i2 8 97 (by omega) (by omega) dX4_lookAtPairs_5 (by decide) (fun hc => absurd hc (by omega)) (fun _ => ?_)
    refine lv_iload_n hx hb dX4_lookAtPairs_8 rfl (lv_at hl 0 rfl) ?_
    refine lv_iconst (v := 1) hx hb dX4_lookAtPairs_9 (by decide) ?_
    refine nv_iadd hx hb i2 1 dX4_lookAtPairs_10 ?_
    refine lv_istore_n (lv' := [(2, .int (nI (i2 + 1))), (1, .int (nI i2)), (0, .ref (q 0))]) hx hb dX4_lookAtPairs_11 rfl hl (by decide) rfl (fun ls hl => ?_)
    refine it_loop (f := (L_X4_lookAtPairs_12 beams phases springs settings i2)) 8 (fun (i12 : Nat) (s12 : (Nat → Int32)) => ∀ (ls : Array Slot) (H : Heap) (locs : List Loc), lv_has ls 4 [(2, .int (nI i12)), (1, .int (nI i2)), (0, .ref (q 0))] → va_P G classes [stC q cI beams speeds phases springs strikes ways kickSums s12 gives settings ticks kicks strikeTicks pulls leaders].flatten H → va_D A [stC q cI beams speeds phases springs strikes ways kickSums s12 gives settings ticks kicks strikeTicks pulls leaders].flatten → va_S A s.heap H locs → W p l e ({ frames := 2, cells := 0, slots := 0, locals := 45 } : Room) s m args below meth c H locs 0 0 QQ (F0 m 12 ls [])) (fun i12 s12 hi12 ih => ?_) (8 - (i2 + 1)) (i2 + 1) s2 (by omega) ?_ ls _ _ (lv_sub hl [0, 1, 2] rfl) hP hD hS
    · intro ls H locs hl hP hD hS
      refine lv_iload_n hx hb dX4_lookAtPairs_12 rfl (lv_at hl 0 rfl) ?_
      refine lv_bipush (v := 8) hx hb dX4_lookAtPairs_13 (by decide) ?_
      refine nv_ge hx hb i12 8 91 (by omega) (by omega) dX4_lookAtPairs_15 (by decide) (fun hc => absurd hc (by omega)) (fun _ => ?_)
      refine lv_aload_n hx hb dX4_lookAtPairs_18 rfl (lv_at hl 2 rfl) ?_
      refine lv_iload_n hx hb dX4_lookAtPairs_19 rfl (lv_at hl 1 rfl) ?_
      refine ct_callV (As := [.int (nI i2)]) (rest := []) X hP hD hS hA (k_X4_goes l G cI cS cL q beams speeds phases springs strikes ways kickSums s12 gives settings ticks kicks strikeTicks pulls leaders i2 (by omega)) cp_X4_goes aw_292 ⟨Nat.le_of_ble_eq_true rfl, Nat.le_of_ble_eq_true rfl⟩ [0] (cs := [stC q cI beams speeds phases springs strikes ways kickSums s12 gives settings ticks kicks strikeTicks pulls leaders]) rfl (by decide) (cs' := [stC q cI beams speeds phases springs strikes ways kickSums s12 gives settings ticks kicks strikeTicks pulls leaders]) rfl rfl 2 rfl rfl (q0 := 0) rfl rfl hl.1 rfl (Nat.le_of_ble_eq_true rfl) dX4_lookAtPairs_20 ⟨Nat.zero_le _, Nat.zero_le _⟩ rfl (bs' := [stC q cI beams speeds phases springs strikes ways kickSums s12 gives settings ticks kicks strikeTicks pulls leaders]) rfl (fun H locs hP hD hS => ?_)
      have hM_24 : ∀ (v_23 : Bool) (ls : Array Slot) (H : Heap) (locs : List Loc), v_23 = (if (f_X4_goes springs i2) = true then (if (f_X4_goes springs i12) = true then (if (f_X4_hangTogether beams i2 i12) = true then (if (f_X4_areNear phases settings i2 i12) = true then true else false) else false) else false) else false) → lv_has ls 4 [(2, .int (nI i12)), (1, .int (nI i2)), (0, .ref (q 0))] → va_P G classes [stC q cI beams speeds phases springs strikes ways kickSums s12 gives settings ticks kicks strikeTicks pulls leaders].flatten H → va_D A [stC q cI beams speeds phases springs strikes ways kickSums s12 gives settings ticks kicks strikeTicks pulls leaders].flatten → va_S A s.heap H locs → W p l e ({ frames := 2, cells := 0, slots := 0, locals := 45 } : Room) s m args below meth c H locs 0 0 QQ (F0 m 57 ls [.int (bI v_23)]) := by
        intro v_23 ls H locs e_v_23 hl hP hD hS
        subst e_v_23
        refine lv_istore_n (lv' := [(3, .int (bI (if (f_X4_goes springs i2) = true then (if (f_X4_goes springs i12) = true then (if (f_X4_hangTogether beams i2 i12) = true then (if (f_X4_areNear phases settings i2 i12) = true then true else false) else false) else false) else false))), (2, .int (nI i12)), (1, .int (nI i2)), (0, .ref (q 0))]) hx hb dX4_lookAtPairs_57 rfl hl (by decide) rfl (fun ls hl => ?_)
        refine lv_aload_n hx hb dX4_lookAtPairs_58 rfl (lv_at hl 3 rfl) ?_
        refine lv_iload_n hx hb dX4_lookAtPairs_59 rfl (lv_at hl 2 rfl) ?_
        refine lv_iload_n hx hb dX4_lookAtPairs_60 rfl (lv_at hl 1 rfl) ?_
        refine lv_iload_n hx hb dX4_lookAtPairs_61 rfl (lv_at hl 0 rfl) ?_
        have hM_29 : ∀ (v_28 : Int32) (ls : Array Slot) (H : Heap) (locs : List Loc), v_28 = (if (if (f_X4_goes springs i2) = true then (if (f_X4_goes springs i12) = true then (if (f_X4_hangTogether beams i2 i12) = true then (if (f_X4_areNear phases settings i2 i12) = true then true else false) else false) else false) else false) = true then ((s12 ((i2 * 8) + i12)) + (1 : Int32)) else (0 : Int32)) → lv_has ls 4 [(2, .int (nI i12)), (1, .int (nI i2)), (0, .ref (q 0))] → va_P G classes [stC q cI beams speeds phases springs strikes ways kickSums s12 gives settings ticks kicks strikeTicks pulls leaders].flatten H → va_D A [stC q cI beams speeds phases springs strikes ways kickSums s12 gives settings ticks kicks strikeTicks pulls leaders].flatten → va_S A s.heap H locs → W p l e ({ frames := 2, cells := 0, slots := 0, locals := 45 } : Room) s m args below meth c H locs 0 0 QQ (F0 m 82 ls [.int v_28, .int (nI i12), .int (nI i2), .ref (q 0)]) := by
          intro v_28 ls H locs e_v_28 hl hP hD hS
          subst e_v_28
          refine ct_callV (As := [.int (nI i2), .int (nI i12), .int (if (if (f_X4_goes springs i2) = true then (if (f_X4_goes springs i12) = true then (if (f_X4_hangTogether beams i2 i12) = true then (if (f_X4_areNear phases settings i2 i12) = true then true else false) else false) else false) else false) = true then ((s12 ((i2 * 8) + i12)) + (1 : Int32)) else (0 : Int32))]) (rest := []) X hP hD hS hA (k_X4_setTicksNear l G cI cS cL q beams speeds phases springs strikes ways kickSums s12 gives settings ticks kicks strikeTicks pulls leaders i2 i12 (if (if (f_X4_goes springs i2) = true then (if (f_X4_goes springs i12) = true then (if (f_X4_hangTogether beams i2 i12) = true then (if (f_X4_areNear phases settings i2 i12) = true then true else false) else false) else false) else false) = true then ((s12 ((i2 * 8) + i12)) + (1 : Int32)) else (0 : Int32)) (by omega) (by omega)) cp_X4_setTicksNear aw_511 ⟨Nat.le_of_ble_eq_true rfl, Nat.le_of_ble_eq_true rfl⟩ [0] (cs := [stC q cI beams speeds phases springs strikes ways kickSums s12 gives settings ticks kicks strikeTicks pulls leaders]) rfl (by decide) (cs' := [stC q cI beams speeds phases springs strikes ways kickSums (f_X4_setTicksNear s12 i2 i12 (if (if (f_X4_goes springs i2) = true then (if (f_X4_goes springs i12) = true then (if (f_X4_hangTogether beams i2 i12) = true then (if (f_X4_areNear phases settings i2 i12) = true then true else false) else false) else false) else false) = true then ((s12 ((i2 * 8) + i12)) + (1 : Int32)) else (0 : Int32))) gives settings ticks kicks strikeTicks pulls leaders]) rfl rfl 2 rfl rfl (q0 := 0) rfl rfl hl.1 rfl (Nat.le_of_ble_eq_true rfl) dX4_lookAtPairs_82 ⟨Nat.zero_le _, Nat.zero_le _⟩ rfl (bs' := [stC q cI beams speeds phases springs strikes ways kickSums (f_X4_setTicksNear s12 i2 i12 (if (if (f_X4_goes springs i2) = true then (if (f_X4_goes springs i12) = true then (if (f_X4_hangTogether beams i2 i12) = true then (if (f_X4_areNear phases settings i2 i12) = true then true else false) else false) else false) else false) = true then ((s12 ((i2 * 8) + i12)) + (1 : Int32)) else (0 : Int32))) gives settings ticks kicks strikeTicks pulls leaders]) rfl (fun H locs hP hD hS => ?_)
          refine nv_iinc (k := 0) (lv' := [(2, .int (nI (i12 + 1))), (1, .int (nI i2)), (0, .ref (q 0))]) hx hb i12 dX4_lookAtPairs_85 hl rfl (by decide) rfl (fun ls hl => ?_)
          refine lv_goto (tgt := 12) hx hb dX4_lookAtPairs_88 (by decide) ?_
          exact ih _ _ _ (lv_sub hl [0, 1, 2] rfl) hP hD hS
        refine bv_ifeq hx hb (if (f_X4_goes springs i2) = true then (if (f_X4_goes springs i12) = true then (if (f_X4_hangTogether beams i2 i12) = true then (if (f_X4_areNear phases settings i2 i12) = true then true else false) else false) else false) else false) 81 dX4_lookAtPairs_62 (by decide) (fun c_25 => ?_) (fun c_25 => ?_)
        · refine lv_iconst (v := 0) hx hb dX4_lookAtPairs_81 (by decide) ?_
          exact hM_29 (0 : Int32) _ _ _ (if_neg c_25).symm (lv_sub hl [1, 2, 3] rfl) hP hD hS
        · refine lv_aload_n hx hb dX4_lookAtPairs_65 rfl (lv_at hl 3 rfl) ?_
          refine va_get (D := G) (ci := 2) (C := RX4) (T := TX4) (N := 15) hx hb hw in_X4 hown hK hP 0 rfl rfl 7 (by decide) (hw _ aw_77) (fun _ h9 => h9) rfl dX4_lookAtPairs_66 ?_
          refine lv_iload_n hx hb dX4_lookAtPairs_69 rfl (lv_at hl 2 rfl) ?_
          refine lv_bipush (v := 8) hx hb dX4_lookAtPairs_70 (by decide) ?_
          refine nv_imul hx hb i2 8 dX4_lookAtPairs_72 ?_
          refine lv_iload_n hx hb dX4_lookAtPairs_73 rfl (lv_at hl 1 rfl) ?_
          refine nv_iadd hx hb (i2 * 8) i12 dX4_lookAtPairs_74 ?_
          refine nv_iald hx hb hK hP 8 0 rfl rfl ((i2 * 8) + i12) (by omega) (by decide) dX4_lookAtPairs_75 ?_
          refine lv_iconst (v := 1) hx hb dX4_lookAtPairs_76 (by decide) ?_
          refine lv_iadd hx hb dX4_lookAtPairs_77 ?_
          refine lv_goto (tgt := 82) hx hb dX4_lookAtPairs_78 (by decide) ?_
          exact hM_29 ((s12 ((i2 * 8) + i12)) + (1 : Int32)) _ _ _ (if_pos c_25).symm (lv_sub hl [1, 2, 3] rfl) hP hD hS
      refine bv_ifeq hx hb (f_X4_goes springs i2) 56 dX4_lookAtPairs_23 (by decide) (fun c_5 => ?_) (fun c_5 => ?_)
      · refine lv_iconst (v := 0) hx hb dX4_lookAtPairs_56 (by decide) ?_
        exact hM_24 false _ _ _ (if_neg c_5).symm (lv_sub hl [0, 1, 2] rfl) hP hD hS
      · refine lv_aload_n hx hb dX4_lookAtPairs_26 rfl (lv_at hl 2 rfl) ?_
        refine lv_iload_n hx hb dX4_lookAtPairs_27 rfl (lv_at hl 0 rfl) ?_
        refine ct_callV (As := [.int (nI i12)]) (rest := []) X hP hD hS hA (k_X4_goes l G cI cS cL q beams speeds phases springs strikes ways kickSums s12 gives settings ticks kicks strikeTicks pulls leaders i12 (by omega)) cp_X4_goes aw_292 ⟨Nat.le_of_ble_eq_true rfl, Nat.le_of_ble_eq_true rfl⟩ [0] (cs := [stC q cI beams speeds phases springs strikes ways kickSums s12 gives settings ticks kicks strikeTicks pulls leaders]) rfl (by decide) (cs' := [stC q cI beams speeds phases springs strikes ways kickSums s12 gives settings ticks kicks strikeTicks pulls leaders]) rfl rfl 2 rfl rfl (q0 := 0) rfl rfl hl.1 rfl (Nat.le_of_ble_eq_true rfl) dX4_lookAtPairs_28 ⟨Nat.zero_le _, Nat.zero_le _⟩ rfl (bs' := [stC q cI beams speeds phases springs strikes ways kickSums s12 gives settings ticks kicks strikeTicks pulls leaders]) rfl (fun H locs hP hD hS => ?_)
        have hM_21 : ∀ (v_20 : Bool) (ls : Array Slot) (H : Heap) (locs : List Loc), v_20 = (if (f_X4_goes springs i12) = true then (if (f_X4_hangTogether beams i2 i12) = true then (if (f_X4_areNear phases settings i2 i12) = true then true else false) else false) else false) → lv_has ls 4 [(2, .int (nI i12)), (1, .int (nI i2)), (0, .ref (q 0))] → va_P G classes [stC q cI beams speeds phases springs strikes ways kickSums s12 gives settings ticks kicks strikeTicks pulls leaders].flatten H → va_D A [stC q cI beams speeds phases springs strikes ways kickSums s12 gives settings ticks kicks strikeTicks pulls leaders].flatten → va_S A s.heap H locs → W p l e ({ frames := 2, cells := 0, slots := 0, locals := 45 } : Room) s m args below meth c H locs 0 0 QQ (F0 m 57 ls [.int (bI v_20)]) := by
          intro v_20 ls H locs e_v_20 hl hP hD hS
          subst e_v_20
          exact hM_24 (if (f_X4_goes springs i12) = true then (if (f_X4_hangTogether beams i2 i12) = true then (if (f_X4_areNear phases settings i2 i12) = true then true else false) else false) else false) _ _ _ (if_pos c_5).symm (lv_sub hl [0, 1, 2] rfl) hP hD hS
        refine bv_ifeq hx hb (f_X4_goes springs i12) 56 dX4_lookAtPairs_31 (by decide) (fun c_7 => ?_) (fun c_7 => ?_)
        · refine lv_iconst (v := 0) hx hb dX4_lookAtPairs_56 (by decide) ?_
          exact hM_21 false _ _ _ (if_neg c_7).symm (lv_sub hl [0, 1, 2] rfl) hP hD hS
        · refine lv_aload_n hx hb dX4_lookAtPairs_34 rfl (lv_at hl 2 rfl) ?_
          refine lv_iload_n hx hb dX4_lookAtPairs_35 rfl (lv_at hl 1 rfl) ?_
          refine lv_iload_n hx hb dX4_lookAtPairs_36 rfl (lv_at hl 0 rfl) ?_
          refine ct_callV (As := [.int (nI i2), .int (nI i12)]) (rest := []) X hP hD hS hA (k_X4_hangTogether l G cI cS cL q beams speeds phases springs strikes ways kickSums s12 gives settings ticks kicks strikeTicks pulls leaders i2 i12 (by omega) (by omega)) cp_X4_hangTogether aw_416 ⟨Nat.le_of_ble_eq_true rfl, Nat.le_of_ble_eq_true rfl⟩ [0] (cs := [stC q cI beams speeds phases springs strikes ways kickSums s12 gives settings ticks kicks strikeTicks pulls leaders]) rfl (by decide) (cs' := [stC q cI beams speeds phases springs strikes ways kickSums s12 gives settings ticks kicks strikeTicks pulls leaders]) rfl rfl 2 rfl rfl (q0 := 0) rfl rfl hl.1 rfl (Nat.le_of_ble_eq_true rfl) dX4_lookAtPairs_37 ⟨Nat.zero_le _, Nat.zero_le _⟩ rfl (bs' := [stC q cI beams speeds phases springs strikes ways kickSums s12 gives settings ticks kicks strikeTicks pulls leaders]) rfl (fun H locs hP hD hS => ?_)
          have hM_18 : ∀ (v_17 : Bool) (ls : Array Slot) (H : Heap) (locs : List Loc), v_17 = (if (f_X4_hangTogether beams i2 i12) = true then (if (f_X4_areNear phases settings i2 i12) = true then true else false) else false) → lv_has ls 4 [(2, .int (nI i12)), (1, .int (nI i2)), (0, .ref (q 0))] → va_P G classes [stC q cI beams speeds phases springs strikes ways kickSums s12 gives settings ticks kicks strikeTicks pulls leaders].flatten H → va_D A [stC q cI beams speeds phases springs strikes ways kickSums s12 gives settings ticks kicks strikeTicks pulls leaders].flatten → va_S A s.heap H locs → W p l e ({ frames := 2, cells := 0, slots := 0, locals := 45 } : Room) s m args below meth c H locs 0 0 QQ (F0 m 57 ls [.int (bI v_17)]) := by
            intro v_17 ls H locs e_v_17 hl hP hD hS
            subst e_v_17
            exact hM_21 (if (f_X4_hangTogether beams i2 i12) = true then (if (f_X4_areNear phases settings i2 i12) = true then true else false) else false) _ _ _ (if_pos c_7).symm (lv_sub hl [0, 1, 2] rfl) hP hD hS
          refine bv_ifeq hx hb (f_X4_hangTogether beams i2 i12) 56 dX4_lookAtPairs_40 (by decide) (fun c_9 => ?_) (fun c_9 => ?_)
          · refine lv_iconst (v := 0) hx hb dX4_lookAtPairs_56 (by decide) ?_
            exact hM_18 false _ _ _ (if_neg c_9).symm (lv_sub hl [0, 1, 2] rfl) hP hD hS
          · refine lv_aload_n hx hb dX4_lookAtPairs_43 rfl (lv_at hl 2 rfl) ?_
            refine lv_iload_n hx hb dX4_lookAtPairs_44 rfl (lv_at hl 1 rfl) ?_
            refine lv_iload_n hx hb dX4_lookAtPairs_45 rfl (lv_at hl 0 rfl) ?_
            refine ct_callV (As := [.int (nI i2), .int (nI i12)]) (rest := []) X hP hD hS hA (k_X4_areNear l G cI cS cL q beams speeds phases springs strikes ways kickSums s12 gives settings ticks kicks strikeTicks pulls leaders i2 i12 (by omega) (by omega)) cp_X4_areNear aw_420 ⟨Nat.le_of_ble_eq_true rfl, Nat.le_of_ble_eq_true rfl⟩ [0] (cs := [stC q cI beams speeds phases springs strikes ways kickSums s12 gives settings ticks kicks strikeTicks pulls leaders]) rfl (by decide) (cs' := [stC q cI beams speeds phases springs strikes ways kickSums s12 gives settings ticks kicks strikeTicks pulls leaders]) rfl rfl 2 rfl rfl (q0 := 0) rfl rfl hl.1 rfl (Nat.le_of_ble_eq_true rfl) dX4_lookAtPairs_46 ⟨Nat.zero_le _, Nat.zero_le _⟩ rfl (bs' := [stC q cI beams speeds phases springs strikes ways kickSums s12 gives settings ticks kicks strikeTicks pulls leaders]) rfl (fun H locs hP hD hS => ?_)
            have hM_15 : ∀ (v_14 : Bool) (ls : Array Slot) (H : Heap) (locs : List Loc), v_14 = (if (f_X4_areNear phases settings i2 i12) = true then true else false) → lv_has ls 4 [(2, .int (nI i12)), (1, .int (nI i2)), (0, .ref (q 0))] → va_P G classes [stC q cI beams speeds phases springs strikes ways kickSums s12 gives settings ticks kicks strikeTicks pulls leaders].flatten H → va_D A [stC q cI beams speeds phases springs strikes ways kickSums s12 gives settings ticks kicks strikeTicks pulls leaders].flatten → va_S A s.heap H locs → W p l e ({ frames := 2, cells := 0, slots := 0, locals := 45 } : Room) s m args below meth c H locs 0 0 QQ (F0 m 57 ls [.int (bI v_14)]) := by
              intro v_14 ls H locs e_v_14 hl hP hD hS
              subst e_v_14
              exact hM_18 (if (f_X4_areNear phases settings i2 i12) = true then true else false) _ _ _ (if_pos c_9).symm (lv_sub hl [0, 1, 2] rfl) hP hD hS
            refine bv_ifeq hx hb (f_X4_areNear phases settings i2 i12) 56 dX4_lookAtPairs_49 (by decide) (fun c_11 => ?_) (fun c_11 => ?_)
            · refine lv_iconst (v := 0) hx hb dX4_lookAtPairs_56 (by decide) ?_
              exact hM_15 false _ _ _ (if_neg c_11).symm (lv_sub hl [0, 1, 2] rfl) hP hD hS
            · refine lv_iconst (v := 1) hx hb dX4_lookAtPairs_52 (by decide) ?_
              refine lv_goto (tgt := 57) hx hb dX4_lookAtPairs_53 (by decide) ?_
              exact hM_15 true _ _ _ (if_pos c_11).symm (lv_sub hl [0, 1, 2] rfl) hP hD hS
    · intro ls H locs hl hP hD hS
      refine lv_iload_n hx hb dX4_lookAtPairs_12 rfl (lv_at hl 0 rfl) ?_
      refine lv_bipush (v := 8) hx hb dX4_lookAtPairs_13 (by decide) ?_
      refine nv_ge hx hb 8 8 91 (by omega) (by omega) dX4_lookAtPairs_15 (by decide) (fun _ => ?_) (fun hc => absurd hc (by omega))
      refine nv_iinc (k := 1) (lv' := [(1, .int (nI (i2 + 1))), (2, .int (nI 8)), (0, .ref (q 0))]) hx hb i2 dX4_lookAtPairs_91 hl rfl (by decide) rfl (fun ls hl => ?_)
      refine lv_goto (tgt := 2) hx hb dX4_lookAtPairs_94 (by decide) ?_
      exact ih _ _ _ (lv_sub hl [0, 2] rfl) hP hD hS
  · intro ls H locs hl hP hD hS
    refine lv_iload_n hx hb dX4_lookAtPairs_2 rfl (lv_at hl 0 rfl) ?_
    refine lv_bipush (v := 8) hx hb dX4_lookAtPairs_3 (by decide) ?_
    refine nv_ge hx hb 8 8 97 (by omega) (by omega) dX4_lookAtPairs_5 (by decide) (fun _ => ?_) (fun hc => absurd hc (by omega))
    rw [← hQQ]; exact W.vret hx hb hr (ct_end (F := (f_X4_lookAtPairs beams phases springs nearTicks settings)) (u := (it (L_X4_lookAtPairs_2 beams phases springs settings) 0 8 nearTicks)) (rf := (fun _ => none)) (wf := (fun u => [stC q cI beams speeds phases springs strikes ways kickSums u gives settings ticks kicks strikeTicks pulls leaders].flatten)) rfl rfl hP hD hS) hS.2.2 dX4_lookAtPairs_97
set_option maxRecDepth 100000 in
set_option maxHeartbeats 4000000 in
theorem k_X4_lockedMask (l : Launch) (G : va_G) (cI cS cL : ClassId) (q : Nat → Nat) (beams : Nat → Int32) (speeds : Nat → Int32) (phases : Nat → Int32) (springs : Nat → Int32) (strikes : Nat → Int32) (ways : Nat → Int32) (kickSums : Nat → Int32) (nearTicks : Nat → Int32) (gives : Nat → Int32) (settings : Nat → Int32) (ticks : Int32) (kicks : Int32) (strikeTicks : Int32) (pulls : Nat → Int32) (leaders : Nat → Int32) (k : Nat) (hk : k < 8) : Ct l G (tyl cI cS cL) yX4_lockedMask cX4_lockedMask 4 (some (Jvm.ClassFile.FieldType.int)) 1 22 0 0 [.ref (q 0), .int (nI k)] [stC q cI beams speeds phases springs strikes ways kickSums nearTicks gives settings ticks kicks strikeTicks pulls leaders].flatten (f_X4_lockedMask nearTicks settings k) (fun u => some (.int u)) (fun _ => [stC q cI beams speeds phases springs strikes ways kickSums nearTicks gives settings ticks kicks strikeTicks pulls leaders].flatten) := by
  refine Ct.of (by decide +kernel) (Nat.le_of_ble_eq_true rfl) ?_
  intro p e s m args below meth c A ls hx hb hr hml hw hown hlocks hin hK hN hP hD hS hA hl
  have hown : s.vm.findClass RX4 = some m.cls := hown
  have X : Cx p s m args c cX4_lockedMask 4 RX4 G (tyl cI cS cL) := ⟨hx, hb, hml, hown, hw, hK, hN⟩
  have hP : va_P G classes [stC q cI beams speeds phases springs strikes ways kickSums nearTicks gives settings ticks kicks strikeTicks pulls leaders].flatten s.heap := hP
  have hl : lv_has ls 4 [(0, .ref (q 0)), (1, .int (nI k))] := hl
  generalize hQQ : MQ below _ args s 0 0 A = QQ
  refine lv_iconst (v := 0) hx hb dX4_lockedMask_0 (by decide) ?_
  refine lv_istore_n (lv' := [(2, .int (0 : Int32)), (0, .ref (q 0)), (1, .int (nI k))]) hx hb dX4_lockedMask_1 rfl hl (by decide) rfl (fun ls hl => ?_)
  refine lv_iconst (v := 0) hx hb dX4_lockedMask_2 (by decide) ?_
  refine lv_istore_n (lv' := [(3, .int (0 : Int32)), (2, .int (0 : Int32)), (0, .ref (q 0)), (1, .int (nI k))]) hx hb dX4_lockedMask_3 rfl hl (by decide) rfl (fun ls hl => ?_)
  refine it_loop (f := (L_X4_lockedMask_4 nearTicks settings k)) 8 (fun (i4 : Nat) (s4 : Int32) => ∀ (ls : Array Slot) (H : Heap) (locs : List Loc), lv_has ls 4 [(3, .int (nI i4)), (2, .int s4), (0, .ref (q 0)), (1, .int (nI k))] → va_P G classes [stC q cI beams speeds phases springs strikes ways kickSums nearTicks gives settings ticks kicks strikeTicks pulls leaders].flatten H → va_D A [stC q cI beams speeds phases springs strikes ways kickSums nearTicks gives settings ticks kicks strikeTicks pulls leaders].flatten → va_S A s.heap H locs → W p l e ({ frames := 1, cells := 0, slots := 0, locals := 22 } : Room) s m args below meth c H locs 0 0 QQ (F0 m 4 ls [])) (fun i4 s4 hi4 ih => ?_) 8 0 (0 : Int32) (by omega) ?_ ls _ _ (lv_sub hl [0, 1, 2, 3] rfl) hP hD hS
  · intro ls H locs hl hP hD hS
    refine lv_iload_n hx hb dX4_lockedMask_4 rfl (lv_at hl 0 rfl) ?_
    refine lv_bipush (v := 8) hx hb dX4_lockedMask_5 (by decide) ?_
    refine nv_ge hx hb i4 8 36 (by omega) (by omega) dX4_lockedMask_7 (by decide) (fun hc => absurd hc (by omega)) (fun _ => ?_)
    refine lv_iload_n hx hb dX4_lockedMask_10 rfl (lv_at hl 0 rfl) ?_
    refine lv_iload_n hx hb dX4_lockedMask_11 rfl (lv_at hl 3 rfl) ?_
    have hM_12 : ∀ (v_11 : Int32) (ls : Array Slot) (H : Heap) (locs : List Loc), v_11 = (if i4 = k then s4 else (if (f_X4_areLocked nearTicks settings k i4) = true then (s4 ||| ((1 : Int32) <<< ((nI i4) &&& 31))) else s4)) → lv_has ls 4 [(3, .int (nI i4)), (2, .int v_11), (0, .ref (q 0)), (1, .int (nI k))] → va_P G classes [stC q cI beams speeds phases springs strikes ways kickSums nearTicks gives settings ticks kicks strikeTicks pulls leaders].flatten H → va_D A [stC q cI beams speeds phases springs strikes ways kickSums nearTicks gives settings ticks kicks strikeTicks pulls leaders].flatten → va_S A s.heap H locs → W p l e ({ frames := 1, cells := 0, slots := 0, locals := 22 } : Room) s m args below meth c H locs 0 0 QQ (F0 m 30 ls []) := by
      intro v_11 ls H locs e_v_11 hl hP hD hS
      subst e_v_11
      refine nv_iinc (k := 0) (lv' := [(3, .int (nI (i4 + 1))), (2, .int (if i4 = k then s4 else (if (f_X4_areLocked nearTicks settings k i4) = true then (s4 ||| ((1 : Int32) <<< ((nI i4) &&& 31))) else s4))), (0, .ref (q 0)), (1, .int (nI k))]) hx hb i4 dX4_lockedMask_30 hl rfl (by decide) rfl (fun ls hl => ?_)
      refine lv_goto (tgt := 4) hx hb dX4_lockedMask_33 (by decide) ?_
      exact ih _ _ _ (lv_sub hl [0, 1, 2, 3] rfl) hP hD hS
    refine nv_eq hx hb i4 k 30 (by omega) (by omega) dX4_lockedMask_12 (by decide) (fun c_3 => ?_) (fun c_3 => ?_)
    · exact hM_12 s4 _ _ _ (if_pos c_3).symm (lv_sub hl [0, 1, 2, 3] rfl) hP hD hS
    · refine lv_aload_n hx hb dX4_lockedMask_15 rfl (lv_at hl 2 rfl) ?_
      refine lv_iload_n hx hb dX4_lockedMask_16 rfl (lv_at hl 3 rfl) ?_
      refine lv_iload_n hx hb dX4_lockedMask_17 rfl (lv_at hl 0 rfl) ?_
      refine ct_callV (As := [.int (nI k), .int (nI i4)]) (rest := []) X hP hD hS hA (k_X4_areLocked l G cI cS cL q beams speeds phases springs strikes ways kickSums nearTicks gives settings ticks kicks strikeTicks pulls leaders k i4 (by omega) (by omega)) cp_X4_areLocked aw_306 ⟨Nat.le_of_ble_eq_true rfl, Nat.le_of_ble_eq_true rfl⟩ [0] (cs := [stC q cI beams speeds phases springs strikes ways kickSums nearTicks gives settings ticks kicks strikeTicks pulls leaders]) rfl (by decide) (cs' := [stC q cI beams speeds phases springs strikes ways kickSums nearTicks gives settings ticks kicks strikeTicks pulls leaders]) rfl rfl 2 rfl rfl (q0 := 0) rfl rfl hl.1 rfl (Nat.le_of_ble_eq_true rfl) dX4_lockedMask_18 ⟨Nat.zero_le _, Nat.zero_le _⟩ rfl (bs' := [stC q cI beams speeds phases springs strikes ways kickSums nearTicks gives settings ticks kicks strikeTicks pulls leaders]) rfl (fun H locs hP hD hS => ?_)
      have hM_9 : ∀ (v_8 : Int32) (ls : Array Slot) (H : Heap) (locs : List Loc), v_8 = (if (f_X4_areLocked nearTicks settings k i4) = true then (s4 ||| ((1 : Int32) <<< ((nI i4) &&& 31))) else s4) → lv_has ls 4 [(2, .int v_8), (3, .int (nI i4)), (0, .ref (q 0)), (1, .int (nI k))] → va_P G classes [stC q cI beams speeds phases springs strikes ways kickSums nearTicks gives settings ticks kicks strikeTicks pulls leaders].flatten H → va_D A [stC q cI beams speeds phases springs strikes ways kickSums nearTicks gives settings ticks kicks strikeTicks pulls leaders].flatten → va_S A s.heap H locs → W p l e ({ frames := 1, cells := 0, slots := 0, locals := 22 } : Room) s m args below meth c H locs 0 0 QQ (F0 m 30 ls []) := by
        intro v_8 ls H locs e_v_8 hl hP hD hS
        subst e_v_8
        exact hM_12 (if (f_X4_areLocked nearTicks settings k i4) = true then (s4 ||| ((1 : Int32) <<< ((nI i4) &&& 31))) else s4) _ _ _ (if_neg c_3).symm (lv_sub hl [1, 0, 2, 3] rfl) hP hD hS
      refine bv_ifeq hx hb (f_X4_areLocked nearTicks settings k i4) 30 dX4_lockedMask_21 (by decide) (fun c_5 => ?_) (fun c_5 => ?_)
      · exact hM_9 s4 _ _ _ (if_neg c_5).symm (lv_sub hl [1, 0, 2, 3] rfl) hP hD hS
      · refine lv_iload_n hx hb dX4_lockedMask_24 rfl (lv_at hl 1 rfl) ?_
        refine lv_iconst (v := 1) hx hb dX4_lockedMask_25 (by decide) ?_
        refine lv_iload_n hx hb dX4_lockedMask_26 rfl (lv_at hl 0 rfl) ?_
        refine lv_ishl hx hb dX4_lockedMask_27 ?_
        refine lv_ior hx hb dX4_lockedMask_28 ?_
        refine lv_istore_n (lv' := [(2, .int (s4 ||| ((1 : Int32) <<< ((nI i4) &&& 31)))), (3, .int (nI i4)), (0, .ref (q 0)), (1, .int (nI k))]) hx hb dX4_lockedMask_29 rfl hl (by decide) rfl (fun ls hl => ?_)
        exact hM_9 (s4 ||| ((1 : Int32) <<< ((nI i4) &&& 31))) _ _ _ (if_pos c_5).symm (lv_sub hl [0, 1, 2, 3] rfl) hP hD hS
  · intro ls H locs hl hP hD hS
    refine lv_iload_n hx hb dX4_lockedMask_4 rfl (lv_at hl 0 rfl) ?_
    refine lv_bipush (v := 8) hx hb dX4_lockedMask_5 (by decide) ?_
    refine nv_ge hx hb 8 8 36 (by omega) (by omega) dX4_lockedMask_7 (by decide) (fun _ => ?_) (fun hc => absurd hc (by omega))
    refine lv_iload_n hx hb dX4_lockedMask_36 rfl (lv_at hl 1 rfl) ?_
    rw [← hQQ]; exact W.iret hx hb hr (ct_end (F := (f_X4_lockedMask nearTicks settings k)) (u := (it (L_X4_lockedMask_4 nearTicks settings k) 0 8 (0 : Int32))) (rf := (fun u => some (.int u))) (wf := (fun _ => [stC q cI beams speeds phases springs strikes ways kickSums nearTicks gives settings ticks kicks strikeTicks pulls leaders].flatten)) rfl rfl hP hD hS) hS.2.2 dX4_lockedMask_37
set_option maxRecDepth 100000 in
set_option maxHeartbeats 4000000 in
theorem k_X4_isIn (l : Launch) (G : va_G) (cI cS cL : ClassId) (a : Int32) (k : Nat) : Ct l G (tyl cI cS cL) yX4_isIn cX4_isIn 2 (some (Jvm.ClassFile.FieldType.boolean)) 0 0 0 0 [.int a, .int (nI k)] [].flatten (f_X4_isIn a k) (fun u => some (.int (bI u))) (fun _ => [].flatten) := by
  refine Ct.of (by decide +kernel) (Nat.le_of_ble_eq_true rfl) ?_
  intro p e s m args below meth c A ls hx hb hr hml hw hown hlocks hin hK hN hP hD hS hA hl
  have hown : s.vm.findClass RX4 = some m.cls := hown
  have X : Cx p s m args c cX4_isIn 2 RX4 G (tyl cI cS cL) := ⟨hx, hb, hml, hown, hw, hK, hN⟩
  have hP : va_P G classes [].flatten s.heap := hP
  have hl : lv_has ls 2 [(0, .int a), (1, .int (nI k))] := hl
  generalize hQQ : MQ below _ args s 0 0 A = QQ
  refine lv_iload_n hx hb dX4_isIn_0 rfl (lv_at hl 0 rfl) ?_
  refine lv_iconst (v := 1) hx hb dX4_isIn_1 (by decide) ?_
  refine lv_iload_n hx hb dX4_isIn_2 rfl (lv_at hl 1 rfl) ?_
  refine lv_ishl hx hb dX4_isIn_3 ?_
  refine lv_iand hx hb dX4_isIn_4 ?_
  have hM_5 : ∀ (v_4 : Bool) (ls : Array Slot) (H : Heap) (locs : List Loc), v_4 = (if (a &&& ((1 : Int32) <<< ((nI k) &&& 31))) = 0 then false else true) → lv_has ls 2 [] → va_P G classes [].flatten H → va_D A [].flatten → va_S A s.heap H locs → W p l e ({ frames := 0, cells := 0, slots := 0, locals := 0 } : Room) s m args below meth c H locs 0 0 QQ (F0 m 13 ls [.int (bI v_4)]) := by
    intro v_4 ls H locs e_v_4 hl hP hD hS
    subst e_v_4
    rw [← hQQ]; exact W.zret (v := bI (if (a &&& ((1 : Int32) <<< ((nI k) &&& 31))) = 0 then false else true)) hx hb hr (nar_b _) (ct_end (F := (f_X4_isIn a k)) (u := (if (a &&& ((1 : Int32) <<< ((nI k) &&& 31))) = 0 then false else true)) (rf := (fun u => some (.int (bI u)))) (wf := (fun _ => [].flatten)) rfl rfl hP hD hS) hS.2.2 dX4_isIn_13
  refine lv_if_eq (tgt := 12) hx hb dX4_isIn_5 (by decide) (fun c_1 => ?_) (fun c_1 => ?_)
  · refine lv_iconst (v := 0) hx hb dX4_isIn_12 (by decide) ?_
    exact hM_5 false _ _ _ (if_pos c_1).symm (lv_sub hl [] rfl) hP hD hS
  · refine lv_iconst (v := 1) hx hb dX4_isIn_8 (by decide) ?_
    refine lv_goto (tgt := 13) hx hb dX4_isIn_9 (by decide) ?_
    exact hM_5 true _ _ _ (if_neg c_1).symm (lv_sub hl [] rfl) hP hD hS
set_option maxRecDepth 100000 in
set_option maxHeartbeats 4000000 in
theorem k_X4_groupMask (l : Launch) (G : va_G) (cI cS cL : ClassId) (q : Nat → Nat) (beams : Nat → Int32) (speeds : Nat → Int32) (phases : Nat → Int32) (springs : Nat → Int32) (strikes : Nat → Int32) (ways : Nat → Int32) (kickSums : Nat → Int32) (nearTicks : Nat → Int32) (gives : Nat → Int32) (settings : Nat → Int32) (ticks : Int32) (kicks : Int32) (strikeTicks : Int32) (pulls : Nat → Int32) (leaders : Nat → Int32) (k : Nat) (hk : k < 8) : Ct l G (tyl cI cS cL) yX4_groupMask cX4_groupMask 5 (some (Jvm.ClassFile.FieldType.int)) 2 45 0 0 [.ref (q 0), .int (nI k)] [stC q cI beams speeds phases springs strikes ways kickSums nearTicks gives settings ticks kicks strikeTicks pulls leaders].flatten (f_X4_groupMask nearTicks settings k) (fun u => some (.int u)) (fun _ => [stC q cI beams speeds phases springs strikes ways kickSums nearTicks gives settings ticks kicks strikeTicks pulls leaders].flatten) := by
  refine Ct.of (by decide +kernel) (Nat.le_of_ble_eq_true rfl) ?_
  intro p e s m args below meth c A ls hx hb hr hml hw hown hlocks hin hK hN hP hD hS hA hl
  have hown : s.vm.findClass RX4 = some m.cls := hown
  have X : Cx p s m args c cX4_groupMask 5 RX4 G (tyl cI cS cL) := ⟨hx, hb, hml, hown, hw, hK, hN⟩
  have hP : va_P G classes [stC q cI beams speeds phases springs strikes ways kickSums nearTicks gives settings ticks kicks strikeTicks pulls leaders].flatten s.heap := hP
  have hl : lv_has ls 5 [(0, .ref (q 0)), (1, .int (nI k))] := hl
  generalize hQQ : MQ below _ args s 0 0 A = QQ
  refine lv_iconst (v := 1) hx hb dX4_groupMask_0 (by decide) ?_
  refine lv_iload_n hx hb dX4_groupMask_1 rfl (lv_at hl 1 rfl) ?_
  refine lv_ishl hx hb dX4_groupMask_2 ?_
  refine lv_istore_n (lv' := [(2, .int ((1 : Int32) <<< ((nI k) &&& 31))), (0, .ref (q 0)), (1, .int (nI k))]) hx hb dX4_groupMask_3 rfl hl (by decide) rfl (fun ls hl => ?_)
  refine lv_iconst (v := 1) hx hb dX4_groupMask_4 (by decide) ?_
  refine lv_istore_n (lv' := [(3, .int (1 : Int32)), (2, .int ((1 : Int32) <<< ((nI k) &&& 31))), (0, .ref (q 0)), (1, .int (nI k))]) hx hb dX4_groupMask_5 rfl hl (by decide) rfl (fun ls hl => ?_)
  refine it_loop (f := (L_X4_groupMask_6 nearTicks settings)) 8 (fun (i6 : Nat) (s6 : Int32) => ∀ (ls : Array Slot) (H : Heap) (locs : List Loc), lv_has ls 5 [(3, .int (nI i6)), (2, .int s6), (0, .ref (q 0))] → va_P G classes [stC q cI beams speeds phases springs strikes ways kickSums nearTicks gives settings ticks kicks strikeTicks pulls leaders].flatten H → va_D A [stC q cI beams speeds phases springs strikes ways kickSums nearTicks gives settings ticks kicks strikeTicks pulls leaders].flatten → va_S A s.heap H locs → W p l e ({ frames := 2, cells := 0, slots := 0, locals := 45 } : Room) s m args below meth c H locs 0 0 QQ (F0 m 6 ls [])) (fun i6 s6 hi6 ih => ?_) 7 1 ((1 : Int32) <<< ((nI k) &&& 31)) (by omega) ?_ ls _ _ (lv_sub hl [0, 1, 2] rfl) hP hD hS
  · intro ls H locs hl hP hD hS
    refine lv_iload_n hx hb dX4_groupMask_6 rfl (lv_at hl 0 rfl) ?_
    refine lv_bipush (v := 8) hx hb dX4_groupMask_7 (by decide) ?_
    refine nv_ge hx hb i6 8 52 (by omega) (by omega) dX4_groupMask_9 (by decide) (fun hc => absurd hc (by omega)) (fun _ => ?_)
    refine lv_iconst (v := 0) hx hb dX4_groupMask_12 (by decide) ?_
    refine lv_istore (lv' := [(4, .int (0 : Int32)), (3, .int (nI i6)), (2, .int s6), (0, .ref (q 0))]) hx hb dX4_groupMask_13 hl (by decide) rfl (fun ls hl => ?_)
    refine it_loop (f := (L_X4_groupMask_15 nearTicks settings)) 8 (fun (i15 : Nat) (s15 : Int32) => ∀ (ls : Array Slot) (H : Heap) (locs : List Loc), lv_has ls 5 [(4, .int (nI i15)), (3, .int (nI i6)), (2, .int s15), (0, .ref (q 0))] → va_P G classes [stC q cI beams speeds phases springs strikes ways kickSums nearTicks gives settings ticks kicks strikeTicks pulls leaders].flatten H → va_D A [stC q cI beams speeds phases springs strikes ways kickSums nearTicks gives settings ticks kicks strikeTicks pulls leaders].flatten → va_S A s.heap H locs → W p l e ({ frames := 2, cells := 0, slots := 0, locals := 45 } : Room) s m args below meth c H locs 0 0 QQ (F0 m 15 ls [])) (fun i15 s15 hi15 ih => ?_) 8 0 s6 (by omega) ?_ ls _ _ (lv_sub hl [0, 1, 2, 3] rfl) hP hD hS
    · intro ls H locs hl hP hD hS
      refine lv_iload hx hb dX4_groupMask_15 (lv_at hl 0 rfl) ?_
      refine lv_bipush (v := 8) hx hb dX4_groupMask_17 (by decide) ?_
      refine nv_ge hx hb i15 8 46 (by omega) (by omega) dX4_groupMask_19 (by decide) (fun hc => absurd hc (by omega)) (fun _ => ?_)
      refine lv_iload_n hx hb dX4_groupMask_22 rfl (lv_at hl 2 rfl) ?_
      refine lv_iload hx hb dX4_groupMask_23 (lv_at hl 0 rfl) ?_
      refine ct_callS (As := [.int s15, .int (nI i15)]) (rest := []) X hP hD hS hA (k_X4_isIn l G cI cS cL  s15 i15) cq_X4_isIn aw_322 ⟨Nat.le_of_ble_eq_true rfl, Nat.le_of_ble_eq_true rfl⟩ ([] : List Nat) (cs := []) rfl (by decide) (cs' := []) rfl rfl rfl hl.1 rfl (Nat.le_of_ble_eq_true rfl) dX4_groupMask_25 ⟨Nat.zero_le _, Nat.zero_le _⟩ rfl (bs' := [stC q cI beams speeds phases springs strikes ways kickSums nearTicks gives settings ticks kicks strikeTicks pulls leaders]) rfl (fun H locs hP hD hS => ?_)
      have hM_9 : ∀ (v_8 : Int32) (ls : Array Slot) (H : Heap) (locs : List Loc), v_8 = (if (f_X4_isIn s15 i15) = true then (s15 ||| (f_X4_lockedMask nearTicks settings i15)) else s15) → lv_has ls 5 [(2, .int v_8), (4, .int (nI i15)), (3, .int (nI i6)), (0, .ref (q 0))] → va_P G classes [stC q cI beams speeds phases springs strikes ways kickSums nearTicks gives settings ticks kicks strikeTicks pulls leaders].flatten H → va_D A [stC q cI beams speeds phases springs strikes ways kickSums nearTicks gives settings ticks kicks strikeTicks pulls leaders].flatten → va_S A s.heap H locs → W p l e ({ frames := 2, cells := 0, slots := 0, locals := 45 } : Room) s m args below meth c H locs 0 0 QQ (F0 m 40 ls []) := by
        intro v_8 ls H locs e_v_8 hl hP hD hS
        subst e_v_8
        refine nv_iinc (k := 1) (lv' := [(4, .int (nI (i15 + 1))), (2, .int (if (f_X4_isIn s15 i15) = true then (s15 ||| (f_X4_lockedMask nearTicks settings i15)) else s15)), (3, .int (nI i6)), (0, .ref (q 0))]) hx hb i15 dX4_groupMask_40 hl rfl (by decide) rfl (fun ls hl => ?_)
        refine lv_goto (tgt := 15) hx hb dX4_groupMask_43 (by decide) ?_
        exact ih _ _ _ (lv_sub hl [0, 2, 1, 3] rfl) hP hD hS
      refine bv_ifeq hx hb (f_X4_isIn s15 i15) 40 dX4_groupMask_28 (by decide) (fun c_5 => ?_) (fun c_5 => ?_)
      · exact hM_9 s15 _ _ _ (if_neg c_5).symm (lv_sub hl [2, 0, 1, 3] rfl) hP hD hS
      · refine lv_iload_n hx hb dX4_groupMask_31 rfl (lv_at hl 2 rfl) ?_
        refine lv_aload_n hx hb dX4_groupMask_32 rfl (lv_at hl 3 rfl) ?_
        refine lv_iload hx hb dX4_groupMask_33 (lv_at hl 0 rfl) ?_
        refine ct_callV (As := [.int (nI i15)]) (rest := [.int s15]) X hP hD hS hA (k_X4_lockedMask l G cI cS cL q beams speeds phases springs strikes ways kickSums nearTicks gives settings ticks kicks strikeTicks pulls leaders i15 (by omega)) cp_X4_lockedMask aw_329 ⟨Nat.le_of_ble_eq_true rfl, Nat.le_of_ble_eq_true rfl⟩ [0] (cs := [stC q cI beams speeds phases springs strikes ways kickSums nearTicks gives settings ticks kicks strikeTicks pulls leaders]) rfl (by decide) (cs' := [stC q cI beams speeds phases springs strikes ways kickSums nearTicks gives settings ticks kicks strikeTicks pulls leaders]) rfl rfl 2 rfl rfl (q0 := 0) rfl rfl hl.1 rfl (Nat.le_of_ble_eq_true rfl) dX4_groupMask_35 ⟨Nat.zero_le _, Nat.zero_le _⟩ rfl (bs' := [stC q cI beams speeds phases springs strikes ways kickSums nearTicks gives settings ticks kicks strikeTicks pulls leaders]) rfl (fun H locs hP hD hS => ?_)
        refine lv_ior hx hb dX4_groupMask_38 ?_
        refine lv_istore_n (lv' := [(2, .int (s15 ||| (f_X4_lockedMask nearTicks settings i15))), (4, .int (nI i15)), (3, .int (nI i6)), (0, .ref (q 0))]) hx hb dX4_groupMask_39 rfl hl (by decide) rfl (fun ls hl => ?_)
        exact hM_9 (s15 ||| (f_X4_lockedMask nearTicks settings i15)) _ _ _ (if_pos c_5).symm (lv_sub hl [0, 1, 2, 3] rfl) hP hD hS
    · intro ls H locs hl hP hD hS
      refine lv_iload hx hb dX4_groupMask_15 (lv_at hl 0 rfl) ?_
      refine lv_bipush (v := 8) hx hb dX4_groupMask_17 (by decide) ?_
      refine nv_ge hx hb 8 8 46 (by omega) (by omega) dX4_groupMask_19 (by decide) (fun _ => ?_) (fun hc => absurd hc (by omega))
      refine nv_iinc (k := 1) (lv' := [(3, .int (nI (i6 + 1))), (4, .int (nI 8)), (2, .int (it (L_X4_groupMask_15 nearTicks settings) 0 8 s6)), (0, .ref (q 0))]) hx hb i6 dX4_groupMask_46 hl rfl (by decide) rfl (fun ls hl => ?_)
      refine lv_goto (tgt := 6) hx hb dX4_groupMask_49 (by decide) ?_
      exact ih _ _ _ (lv_sub hl [0, 2, 3] rfl) hP hD hS
  · intro ls H locs hl hP hD hS
    refine lv_iload_n hx hb dX4_groupMask_6 rfl (lv_at hl 0 rfl) ?_
    refine lv_bipush (v := 8) hx hb dX4_groupMask_7 (by decide) ?_
    refine nv_ge hx hb 8 8 52 (by omega) (by omega) dX4_groupMask_9 (by decide) (fun _ => ?_) (fun hc => absurd hc (by omega))
    refine lv_iload_n hx hb dX4_groupMask_52 rfl (lv_at hl 1 rfl) ?_
    rw [← hQQ]; exact W.iret hx hb hr (ct_end (F := (f_X4_groupMask nearTicks settings k)) (u := (it (L_X4_groupMask_6 nearTicks settings) 1 7 ((1 : Int32) <<< ((nI k) &&& 31)))) (rf := (fun u => some (.int u))) (wf := (fun _ => [stC q cI beams speeds phases springs strikes ways kickSums nearTicks gives settings ticks kicks strikeTicks pulls leaders].flatten)) rfl rfl hP hD hS) hS.2.2 dX4_groupMask_53
set_option maxRecDepth 100000 in
set_option maxHeartbeats 4000000 in
theorem k_X4_lowestOfGroup (l : Launch) (G : va_G) (cI cS cL : ClassId) (q : Nat → Nat) (beams : Nat → Int32) (speeds : Nat → Int32) (phases : Nat → Int32) (springs : Nat → Int32) (strikes : Nat → Int32) (ways : Nat → Int32) (kickSums : Nat → Int32) (nearTicks : Nat → Int32) (gives : Nat → Int32) (settings : Nat → Int32) (ticks : Int32) (kicks : Int32) (strikeTicks : Int32) (pulls : Nat → Int32) (leaders : Nat → Int32) (k : Nat) (hk : k < 8) : Ct l G (tyl cI cS cL) yX4_lowestOfGroup cX4_lowestOfGroup 4 (some (Jvm.ClassFile.FieldType.int)) 3 69 0 0 [.ref (q 0), .int (nI k)] [stC q cI beams speeds phases springs strikes ways kickSums nearTicks gives settings ticks kicks strikeTicks pulls leaders].flatten (f_X4_lowestOfGroup nearTicks settings k) (fun u => some (.int u)) (fun _ => [stC q cI beams speeds phases springs strikes ways kickSums nearTicks gives settings ticks kicks strikeTicks pulls leaders].flatten) := by
  refine Ct.of (by decide +kernel) (Nat.le_of_ble_eq_true rfl) ?_
  intro p e s m args below meth c A ls hx hb hr hml hw hown hlocks hin hK hN hP hD hS hA hl
  have hown : s.vm.findClass RX4 = some m.cls := hown
  have X : Cx p s m args c cX4_lowestOfGroup 4 RX4 G (tyl cI cS cL) := ⟨hx, hb, hml, hown, hw, hK, hN⟩
  have hP : va_P G classes [stC q cI beams speeds phases springs strikes ways kickSums nearTicks gives settings ticks kicks strikeTicks pulls leaders].flatten s.heap := hP
  have hl : lv_has ls 4 [(0, .ref (q 0)), (1, .int (nI k))] := hl
  generalize hQQ : MQ below _ args s 0 0 A = QQ
  refine lv_aload_n hx hb dX4_lowestOfGroup_0 rfl (lv_at hl 0 rfl) ?_
  refine lv_iload_n hx hb dX4_lowestOfGroup_1 rfl (lv_at hl 1 rfl) ?_
  refine ct_callV (As := [.int (nI k)]) (rest := []) X hP hD hS hA (k_X4_groupMask l G cI cS cL q beams speeds phases springs strikes ways kickSums nearTicks gives settings ticks kicks strikeTicks pulls leaders k (by omega)) cp_X4_groupMask aw_325 ⟨Nat.le_of_ble_eq_true rfl, Nat.le_of_ble_eq_true rfl⟩ [0] (cs := [stC q cI beams speeds phases springs strikes ways kickSums nearTicks gives settings ticks kicks strikeTicks pulls leaders]) rfl (by decide) (cs' := [stC q cI beams speeds phases springs strikes ways kickSums nearTicks gives settings ticks kicks strikeTicks pulls leaders]) rfl rfl 2 rfl rfl (q0 := 0) rfl rfl hl.1 rfl (Nat.le_of_ble_eq_true rfl) dX4_lowestOfGroup_2 ⟨Nat.zero_le _, Nat.zero_le _⟩ rfl (bs' := [stC q cI beams speeds phases springs strikes ways kickSums nearTicks gives settings ticks kicks strikeTicks pulls leaders]) rfl (fun H locs hP hD hS => ?_)
  refine lv_istore_n (lv' := [(2, .int (f_X4_groupMask nearTicks settings k)), (0, .ref (q 0)), (1, .int (nI k))]) hx hb dX4_lowestOfGroup_5 rfl hl (by decide) rfl (fun ls hl => ?_)
  refine lv_iconst (v := 0) hx hb dX4_lowestOfGroup_6 (by decide) ?_
  refine lv_istore_n (lv' := [(3, .int (0 : Int32)), (2, .int (f_X4_groupMask nearTicks settings k)), (0, .ref (q 0)), (1, .int (nI k))]) hx hb dX4_lowestOfGroup_7 rfl hl (by decide) rfl (fun ls hl => ?_)
  have hX8 : ∀ (ls : Array Slot) (H : Heap) (locs : List Loc), lv_has ls 4 [(3, .int (nI ((unc k (itx (L_X4_lowestOfGroup_8 nearTicks settings k) 0 k ())).2)))] → va_P G classes [stC q cI beams speeds phases springs strikes ways kickSums nearTicks gives settings ticks kicks strikeTicks pulls leaders].flatten H → va_D A [stC q cI beams speeds phases springs strikes ways kickSums nearTicks gives settings ticks kicks strikeTicks pulls leaders].flatten → va_S A s.heap H locs → W p l e ({ frames := 3, cells := 0, slots := 0, locals := 69 } : Room) s m args below meth c H locs 0 0 QQ (F0 m 27 ls []) := by
    intro ls H locs hl hP hD hS
    refine lv_iload_n hx hb dX4_lowestOfGroup_27 rfl (lv_at hl 0 rfl) ?_
    rw [← hQQ]; exact W.iret hx hb hr (ct_end (F := (f_X4_lowestOfGroup nearTicks settings k)) (u := (nI ((unc k (itx (L_X4_lowestOfGroup_8 nearTicks settings k) 0 k ())).2))) (rf := (fun u => some (.int u))) (wf := (fun _ => [stC q cI beams speeds phases springs strikes ways kickSums nearTicks gives settings ticks kicks strikeTicks pulls leaders].flatten)) rfl rfl hP hD hS) hS.2.2 dX4_lowestOfGroup_28
  refine itx_loop (f := (L_X4_lowestOfGroup_8 nearTicks settings k)) k (fun (i8 : Nat) (s8 : Unit) => ∀ (ls : Array Slot) (H : Heap) (locs : List Loc), lv_has ls 4 [(3, .int (nI i8)), (2, .int (f_X4_groupMask nearTicks settings k)), (1, .int (nI k))] → va_P G classes [stC q cI beams speeds phases springs strikes ways kickSums nearTicks gives settings ticks kicks strikeTicks pulls leaders].flatten H → va_D A [stC q cI beams speeds phases springs strikes ways kickSums nearTicks gives settings ticks kicks strikeTicks pulls leaders].flatten → va_S A s.heap H locs → W p l e ({ frames := 3, cells := 0, slots := 0, locals := 69 } : Room) s m args below meth c H locs 0 0 QQ (F0 m 8 ls [])) (itx (L_X4_lowestOfGroup_8 nearTicks settings k) 0 k ()) (fun i8 s8 hi8 hT8 ih => ?_) k 0 () (by omega) rfl (fun n8 hs8 => ?_) ls _ _ (lv_sub hl [0, 1, 3] rfl) hP hD hS
  · intro ls H locs hl hP hD hS
    refine lv_iload_n hx hb dX4_lowestOfGroup_8 rfl (lv_at hl 0 rfl) ?_
    refine lv_iload_n hx hb dX4_lowestOfGroup_9 rfl (lv_at hl 2 rfl) ?_
    refine nv_ge hx hb i8 k 27 (by omega) (by omega) dX4_lowestOfGroup_10 (by decide) (fun hc => absurd hc (by omega)) (fun _ => ?_)
    refine lv_iload_n hx hb dX4_lowestOfGroup_13 rfl (lv_at hl 1 rfl) ?_
    refine lv_iload_n hx hb dX4_lowestOfGroup_14 rfl (lv_at hl 0 rfl) ?_
    refine ct_callS (As := [.int (f_X4_groupMask nearTicks settings k), .int (nI i8)]) (rest := []) X hP hD hS hA (k_X4_isIn l G cI cS cL  (f_X4_groupMask nearTicks settings k) i8) cq_X4_isIn aw_322 ⟨Nat.le_of_ble_eq_true rfl, Nat.le_of_ble_eq_true rfl⟩ ([] : List Nat) (cs := []) rfl (by decide) (cs' := []) rfl rfl rfl hl.1 rfl (Nat.le_of_ble_eq_true rfl) dX4_lowestOfGroup_15 ⟨Nat.zero_le _, Nat.zero_le _⟩ rfl (bs' := [stC q cI beams speeds phases springs strikes ways kickSums nearTicks gives settings ticks kicks strikeTicks pulls leaders]) rfl (fun H locs hP hD hS => ?_)
    refine bv_ifne hx hb (f_X4_isIn (f_X4_groupMask nearTicks settings k) i8) 27 dX4_lowestOfGroup_18 (by decide) (fun c_3 => ?_) (fun c_3 => ?_)
    · rw [hT8 ((), i8) (by first | (unfold L_X4_lowestOfGroup_8; rw [if_pos c_3]; first | done | rfl) | (unfold L_X4_lowestOfGroup_8; simp only [if_pos c_3]))] at hX8; exact hX8 _ _ _ (lv_sub hl [0] rfl) hP hD hS
    · refine nv_iinc (k := 0) (lv' := [(3, .int (nI (i8 + 1))), (2, .int (f_X4_groupMask nearTicks settings k)), (1, .int (nI k))]) hx hb i8 dX4_lowestOfGroup_21 hl rfl (by decide) rfl (fun ls hl => ?_)
      refine lv_goto (tgt := 8) hx hb dX4_lowestOfGroup_24 (by decide) ?_
      exact ih () (by first | (unfold L_X4_lowestOfGroup_8; rw [if_neg c_3]; first | done | rfl) | (unfold L_X4_lowestOfGroup_8; simp only [if_neg c_3])) _ _ _ (lv_sub hl [0, 1, 2] rfl) hP hD hS
  · intro ls H locs hl hP hD hS
    refine lv_iload_n hx hb dX4_lowestOfGroup_8 rfl (lv_at hl 0 rfl) ?_
    refine lv_iload_n hx hb dX4_lowestOfGroup_9 rfl (lv_at hl 2 rfl) ?_
    refine nv_ge hx hb k k 27 (by omega) (by omega) dX4_lowestOfGroup_10 (by decide) (fun _ => ?_) (fun hc => absurd hc (by omega))
    rw [hs8] at hX8; exact hX8 _ _ _ (lv_sub hl [0] rfl) hP hD hS
set_option maxRecDepth 100000 in
set_option maxHeartbeats 4000000 in
theorem k_X4_join (l : Launch) (G : va_G) (cI cS cL : ClassId) (q : Nat → Nat) (beams : Nat → Int32) (speeds : Nat → Int32) (phases : Nat → Int32) (springs : Nat → Int32) (strikes : Nat → Int32) (ways : Nat → Int32) (kickSums : Nat → Int32) (nearTicks : Nat → Int32) (gives : Nat → Int32) (settings : Nat → Int32) (ticks : Int32) (kicks : Int32) (strikeTicks : Int32) (pulls : Nat → Int32) (leaders : Nat → Int32) (a : Int32) (b : Int32) : Ct l G (tyl cI cS cL) yX4_join cX4_join 4 none 0 0 0 0 [.ref (q 0), .int a, .int b] [stC q cI beams speeds phases springs strikes ways kickSums nearTicks gives settings ticks kicks strikeTicks pulls leaders].flatten (f_X4_join leaders a b) (fun _ => none) (fun u => [stC q cI beams speeds phases springs strikes ways kickSums nearTicks gives settings ticks kicks strikeTicks pulls u].flatten) := by
  refine Ct.of (by decide +kernel) (Nat.le_of_ble_eq_true rfl) ?_
  intro p e s m args below meth c A ls hx hb hr hml hw hown hlocks hin hK hN hP hD hS hA hl
  have hown : s.vm.findClass RX4 = some m.cls := hown
  have X : Cx p s m args c cX4_join 4 RX4 G (tyl cI cS cL) := ⟨hx, hb, hml, hown, hw, hK, hN⟩
  have hP : va_P G classes [stC q cI beams speeds phases springs strikes ways kickSums nearTicks gives settings ticks kicks strikeTicks pulls leaders].flatten s.heap := hP
  have hl : lv_has ls 4 [(0, .ref (q 0)), (1, .int a), (2, .int b)] := hl
  generalize hQQ : MQ below _ args s 0 0 A = QQ
  refine lv_iconst (v := 0) hx hb dX4_join_0 (by decide) ?_
  refine lv_istore_n (lv' := [(3, .int (0 : Int32)), (0, .ref (q 0)), (1, .int a), (2, .int b)]) hx hb dX4_join_1 rfl hl (by decide) rfl (fun ls hl => ?_)
  refine it_loop (f := (L_X4_join_2 a b)) 8 (fun (i2 : Nat) (s2 : (Nat → Int32)) => ∀ (ls : Array Slot) (H : Heap) (locs : List Loc), lv_has ls 4 [(3, .int (nI i2)), (0, .ref (q 0)), (1, .int a), (2, .int b)] → va_P G classes [stC q cI beams speeds phases springs strikes ways kickSums nearTicks gives settings ticks kicks strikeTicks pulls s2].flatten H → va_D A [stC q cI beams speeds phases springs strikes ways kickSums nearTicks gives settings ticks kicks strikeTicks pulls s2].flatten → va_S A s.heap H locs → W p l e ({ frames := 0, cells := 0, slots := 0, locals := 0 } : Room) s m args below meth c H locs 0 0 QQ (F0 m 2 ls [])) (fun i2 s2 hi2 ih => ?_) 8 0 leaders (by omega) ?_ ls _ _ (lv_sub hl [0, 1, 2, 3] rfl) hP hD hS
  · intro ls H locs hl hP hD hS
    refine lv_iload_n hx hb dX4_join_2 rfl (lv_at hl 0 rfl) ?_
    refine lv_bipush (v := 8) hx hb dX4_join_3 (by decide) ?_
    refine nv_ge hx hb i2 8 31 (by omega) (by omega) dX4_join_5 (by decide) (fun hc => absurd hc (by omega)) (fun _ => ?_)
    refine lv_aload_n hx hb dX4_join_8 rfl (lv_at hl 1 rfl) ?_
    refine va_get (D := G) (ci := 2) (C := RX4) (T := TX4) (N := 15) hx hb hw in_X4 hown hK hP 0 rfl rfl 14 (by decide) (hw _ aw_87) (fun _ h9 => h9) rfl dX4_join_9 ?_
    refine lv_iload_n hx hb dX4_join_12 rfl (lv_at hl 0 rfl) ?_
    refine nv_iald hx hb hK hP 12 0 rfl rfl i2 (by omega) (by decide) dX4_join_13 ?_
    refine lv_iload_n hx hb dX4_join_14 rfl (lv_at hl 3 rfl) ?_
    have hM_7 : ∀ (v_6 : Nat → Int32) (ls : Array Slot) (H : Heap) (locs : List Loc), v_6 = (if (s2 i2) = b then (upd s2 i2 a) else s2) → lv_has ls 4 [(3, .int (nI i2)), (0, .ref (q 0)), (1, .int a), (2, .int b)] → va_P G classes [stC q cI beams speeds phases springs strikes ways kickSums nearTicks gives settings ticks kicks strikeTicks pulls v_6].flatten H → va_D A [stC q cI beams speeds phases springs strikes ways kickSums nearTicks gives settings ticks kicks strikeTicks pulls v_6].flatten → va_S A s.heap H locs → W p l e ({ frames := 0, cells := 0, slots := 0, locals := 0 } : Room) s m args below meth c H locs 0 0 QQ (F0 m 25 ls []) := by
      intro v_6 ls H locs e_v_6 hl hP hD hS
      subst e_v_6
      refine nv_iinc (k := 0) (lv' := [(3, .int (nI (i2 + 1))), (0, .ref (q 0)), (1, .int a), (2, .int b)]) hx hb i2 dX4_join_25 hl rfl (by decide) rfl (fun ls hl => ?_)
      refine lv_goto (tgt := 2) hx hb dX4_join_28 (by decide) ?_
      exact ih _ _ _ (lv_sub hl [0, 1, 2, 3] rfl) hP hD hS
    refine iv_ne hx hb 25 dX4_join_15 (by decide) (fun c_3 => ?_) (fun c_3 => ?_)
    · exact hM_7 s2 _ _ _ (if_neg c_3).symm (lv_sub hl [0, 1, 2, 3] rfl) hP hD hS
    · refine lv_aload_n hx hb dX4_join_18 rfl (lv_at hl 1 rfl) ?_
      refine va_get (D := G) (ci := 2) (C := RX4) (T := TX4) (N := 15) hx hb hw in_X4 hown hK hP 0 rfl rfl 14 (by decide) (hw _ aw_87) (fun _ h9 => h9) rfl dX4_join_19 ?_
      refine lv_iload_n hx hb dX4_join_22 rfl (lv_at hl 0 rfl) ?_
      refine lv_iload_n hx hb dX4_join_23 rfl (lv_at hl 2 rfl) ?_
      refine nv_iast hx hb hK hP hD hS 12 0 rfl rfl i2 (by omega) (by decide) dX4_join_24 (ws' := [stC q cI beams speeds phases springs strikes ways kickSums nearTicks gives settings ticks kicks strikeTicks pulls (upd s2 i2 a)].flatten) rfl (fun H locs hP hD hS => ?_)
      exact hM_7 (upd s2 i2 a) _ _ _ (if_pos c_3).symm (lv_sub hl [0, 1, 2, 3] rfl) hP hD hS
  · intro ls H locs hl hP hD hS
    refine lv_iload_n hx hb dX4_join_2 rfl (lv_at hl 0 rfl) ?_
    refine lv_bipush (v := 8) hx hb dX4_join_3 (by decide) ?_
    refine nv_ge hx hb 8 8 31 (by omega) (by omega) dX4_join_5 (by decide) (fun _ => ?_) (fun hc => absurd hc (by omega))
    rw [← hQQ]; exact W.vret hx hb hr (ct_end (F := (f_X4_join leaders a b)) (u := (it (L_X4_join_2 a b) 0 8 leaders)) (rf := (fun _ => none)) (wf := (fun u => [stC q cI beams speeds phases springs strikes ways kickSums nearTicks gives settings ticks kicks strikeTicks pulls u].flatten)) rfl rfl hP hD hS) hS.2.2 dX4_join_31
set_option maxRecDepth 100000 in
set_option maxHeartbeats 4000000 in
theorem k_X4_groupsByJoining (l : Launch) (G : va_G) (cI cS cL : ClassId) (q : Nat → Nat) (beams : Nat → Int32) (speeds : Nat → Int32) (phases : Nat → Int32) (springs : Nat → Int32) (strikes : Nat → Int32) (ways : Nat → Int32) (kickSums : Nat → Int32) (nearTicks : Nat → Int32) (gives : Nat → Int32) (settings : Nat → Int32) (ticks : Int32) (kicks : Int32) (strikeTicks : Int32) (pulls : Nat → Int32) (leaders : Nat → Int32) : Ct l G (tyl cI cS cL) yX4_groupsByJoining cX4_groupsByJoining 4 (some (Jvm.ClassFile.FieldType.int)) 1 23 0 0 [.ref (q 0)] [stC q cI beams speeds phases springs strikes ways kickSums nearTicks gives settings ticks kicks strikeTicks pulls leaders].flatten (f_X4_groupsByJoining nearTicks settings leaders) (fun u => some (.int u.1)) (fun u => [stC q cI beams speeds phases springs strikes ways kickSums nearTicks gives settings ticks kicks strikeTicks pulls u.2].flatten) := by
  refine Ct.of (by decide +kernel) (Nat.le_of_ble_eq_true rfl) ?_
  intro p e s m args below meth c A ls hx hb hr hml hw hown hlocks hin hK hN hP hD hS hA hl
  have hown : s.vm.findClass RX4 = some m.cls := hown
  have X : Cx p s m args c cX4_groupsByJoining 4 RX4 G (tyl cI cS cL) := ⟨hx, hb, hml, hown, hw, hK, hN⟩
  have hP : va_P G classes [stC q cI beams speeds phases springs strikes ways kickSums nearTicks gives settings ticks kicks strikeTicks pulls leaders].flatten s.heap := hP
  have hl : lv_has ls 4 [(0, .ref (q 0))] := hl
  generalize hQQ : MQ below _ args s 0 0 A = QQ
  refine lv_iconst (v := 0) hx hb dX4_groupsByJoining_0 (by decide) ?_
  refine lv_istore_n (lv' := [(1, .int (0 : Int32)), (0, .ref (q 0))]) hx hb dX4_groupsByJoining_1 rfl hl (by decide) rfl (fun ls hl => ?_)
  refine it_loop (f := L_X4_groupsByJoining_2) 8 (fun (i2 : Nat) (s2 : (Nat → Int32)) => ∀ (ls : Array Slot) (H : Heap) (locs : List Loc), lv_has ls 4 [(1, .int (nI i2)), (0, .ref (q 0))] → va_P G classes [stC q cI beams speeds phases springs strikes ways kickSums nearTicks gives settings ticks kicks strikeTicks pulls s2].flatten H → va_D A [stC q cI beams speeds phases springs strikes ways kickSums nearTicks gives settings ticks kicks strikeTicks pulls s2].flatten → va_S A s.heap H locs → W p l e ({ frames := 1, cells := 0, slots := 0, locals := 23 } : Room) s m args below meth c H locs 0 0 QQ (F0 m 2 ls [])) (fun i2 s2 hi2 ih => ?_) 8 0 leaders (by omega) ?_ ls _ _ (lv_sub hl [0, 1] rfl) hP hD hS
  · intro ls H locs hl hP hD hS
    refine lv_iload_n hx hb dX4_groupsByJoining_2 rfl (lv_at hl 0 rfl) ?_
    refine lv_bipush (v := 8) hx hb dX4_groupsByJoining_3 (by decide) ?_
    refine nv_ge hx hb i2 8 21 (by omega) (by omega) dX4_groupsByJoining_5 (by decide) (fun hc => absurd hc (by omega)) (fun _ => ?_)
    refine lv_aload_n hx hb dX4_groupsByJoining_8 rfl (lv_at hl 1 rfl) ?_
    refine va_get (D := G) (ci := 2) (C := RX4) (T := TX4) (N := 15) hx hb hw in_X4 hown hK hP 0 rfl rfl 14 (by decide) (hw _ aw_87) (fun _ h9 => h9) rfl dX4_groupsByJoining_9 ?_
    refine lv_iload_n hx hb dX4_groupsByJoining_12 rfl (lv_at hl 0 rfl) ?_
    refine lv_iload_n hx hb dX4_groupsByJoining_13 rfl (lv_at hl 0 rfl) ?_
    refine nv_iast hx hb hK hP hD hS 12 0 rfl rfl i2 (by omega) (by decide) dX4_groupsByJoining_14 (ws' := [stC q cI beams speeds phases springs strikes ways kickSums nearTicks gives settings ticks kicks strikeTicks pulls (upd s2 i2 (nI i2))].flatten) rfl (fun H locs hP hD hS => ?_)
    refine nv_iinc (k := 0) (lv' := [(1, .int (nI (i2 + 1))), (0, .ref (q 0))]) hx hb i2 dX4_groupsByJoining_15 hl rfl (by decide) rfl (fun ls hl => ?_)
    refine lv_goto (tgt := 2) hx hb dX4_groupsByJoining_18 (by decide) ?_
    exact ih _ _ _ (lv_sub hl [0, 1] rfl) hP hD hS
  · intro ls H locs hl hP hD hS
    refine lv_iload_n hx hb dX4_groupsByJoining_2 rfl (lv_at hl 0 rfl) ?_
    refine lv_bipush (v := 8) hx hb dX4_groupsByJoining_3 (by decide) ?_
    refine nv_ge hx hb 8 8 21 (by omega) (by omega) dX4_groupsByJoining_5 (by decide) (fun _ => ?_) (fun hc => absurd hc (by omega))
    refine lv_bipush (v := 8) hx hb dX4_groupsByJoining_21 (by decide) ?_
    refine lv_istore_n (lv' := [(1, .int (8 : Int32)), (0, .ref (q 0))]) hx hb dX4_groupsByJoining_23 rfl hl (by decide) rfl (fun ls hl => ?_)
    refine lv_iconst (v := 0) hx hb dX4_groupsByJoining_24 (by decide) ?_
    refine lv_istore_n (lv' := [(2, .int (0 : Int32)), (1, .int (8 : Int32)), (0, .ref (q 0))]) hx hb dX4_groupsByJoining_25 rfl hl (by decide) rfl (fun ls hl => ?_)
    refine it_loop (f := (L_X4_groupsByJoining_26 nearTicks settings)) 8 (fun (i26 : Nat) (s26 : Int32 × (Nat → Int32)) => ∀ (ls : Array Slot) (H : Heap) (locs : List Loc), lv_has ls 4 [(2, .int (nI i26)), (1, .int s26.1), (0, .ref (q 0))] → va_P G classes [stC q cI beams speeds phases springs strikes ways kickSums nearTicks gives settings ticks kicks strikeTicks pulls s26.2].flatten H → va_D A [stC q cI beams speeds phases springs strikes ways kickSums nearTicks gives settings ticks kicks strikeTicks pulls s26.2].flatten → va_S A s.heap H locs → W p l e ({ frames := 1, cells := 0, slots := 0, locals := 23 } : Room) s m args below meth c H locs 0 0 QQ (F0 m 26 ls [])) (fun i26 s26 hi26 ih => ?_) 8 0 ((8 : Int32), (it L_X4_groupsByJoining_2 0 8 leaders)) (by omega) ?_ ls _ _ (lv_sub hl [0, 1, 2] rfl) hP hD hS
    · intro ls H locs hl hP hD hS
      refine lv_iload_n hx hb dX4_groupsByJoining_26 rfl (lv_at hl 0 rfl) ?_
      refine lv_bipush (v := 8) hx hb dX4_groupsByJoining_27 (by decide) ?_
      refine nv_ge hx hb i26 8 97 (by omega) (by omega) dX4_groupsByJoining_29 (by decide) (fun hc => absurd hc (by omega)) (fun _ => ?_)
      refine lv_iload_n hx hb dX4_groupsByJoining_32 rfl (lv_at hl 0 rfl) ?_
      refine lv_iconst (v := 1) hx hb dX4_groupsByJoining_33 (by decide) ?_
      refine nv_iadd hx hb i26 1 dX4_groupsByJoining_34 ?_
      refine lv_istore_n (lv' := [(3, .int (nI (i26 + 1))), (2, .int (nI i26)), (1, .int s26.1), (0, .ref (q 0))]) hx hb dX4_groupsByJoining_35 rfl hl (by decide) rfl (fun ls hl => ?_)
      refine it_loop (f := (L_X4_groupsByJoining_36 nearTicks settings i26)) 8 (fun (i36 : Nat) (s36 : Int32 × (Nat → Int32)) => ∀ (ls : Array Slot) (H : Heap) (locs : List Loc), lv_has ls 4 [(3, .int (nI i36)), (2, .int (nI i26)), (1, .int s36.1), (0, .ref (q 0))] → va_P G classes [stC q cI beams speeds phases springs strikes ways kickSums nearTicks gives settings ticks kicks strikeTicks pulls s36.2].flatten H → va_D A [stC q cI beams speeds phases springs strikes ways kickSums nearTicks gives settings ticks kicks strikeTicks pulls s36.2].flatten → va_S A s.heap H locs → W p l e ({ frames := 1, cells := 0, slots := 0, locals := 23 } : Room) s m args below meth c H locs 0 0 QQ (F0 m 36 ls [])) (fun i36 s36 hi36 ih => ?_) (8 - (i26 + 1)) (i26 + 1) s26 (by omega) ?_ ls _ _ (lv_sub hl [0, 1, 2, 3] rfl) hP hD hS
      · intro ls H locs hl hP hD hS
        refine lv_iload_n hx hb dX4_groupsByJoining_36 rfl (lv_at hl 0 rfl) ?_
        refine lv_bipush (v := 8) hx hb dX4_groupsByJoining_37 (by decide) ?_
        refine nv_ge hx hb i36 8 91 (by omega) (by omega) dX4_groupsByJoining_39 (by decide) (fun hc => absurd hc (by omega)) (fun _ => ?_)
        refine lv_aload_n hx hb dX4_groupsByJoining_42 rfl (lv_at hl 3 rfl) ?_
        refine lv_iload_n hx hb dX4_groupsByJoining_43 rfl (lv_at hl 1 rfl) ?_
        refine lv_iload_n hx hb dX4_groupsByJoining_44 rfl (lv_at hl 0 rfl) ?_
        refine ct_callV (As := [.int (nI i26), .int (nI i36)]) (rest := []) X hP hD hS hA (k_X4_areLocked l G cI cS cL q beams speeds phases springs strikes ways kickSums nearTicks gives settings ticks kicks strikeTicks pulls s36.2 i26 i36 (by omega) (by omega)) cp_X4_areLocked aw_306 ⟨Nat.le_of_ble_eq_true rfl, Nat.le_of_ble_eq_true rfl⟩ [0] (cs := [stC q cI beams speeds phases springs strikes ways kickSums nearTicks gives settings ticks kicks strikeTicks pulls s36.2]) rfl (by decide) (cs' := [stC q cI beams speeds phases springs strikes ways kickSums nearTicks gives settings ticks kicks strikeTicks pulls s36.2]) rfl rfl 2 rfl rfl (q0 := 0) rfl rfl hl.1 rfl (Nat.le_of_ble_eq_true rfl) dX4_groupsByJoining_45 ⟨Nat.zero_le _, Nat.zero_le _⟩ rfl (bs' := [stC q cI beams speeds phases springs strikes ways kickSums nearTicks gives settings ticks kicks strikeTicks pulls s36.2]) rfl (fun H locs hP hD hS => ?_)
        have hM_22 : ∀ (v_20 : Int32) (v_21 : Nat → Int32) (ls : Array Slot) (H : Heap) (locs : List Loc), v_20 = (if (f_X4_areLocked nearTicks settings i26 i36) = true then (if (s36.2 i26) = (s36.2 i36) then s36.1 else (s36.1 + (-1 : Int32))) else s36.1) → v_21 = (if (f_X4_areLocked nearTicks settings i26 i36) = true then (if (s36.2 i26) = (s36.2 i36) then s36.2 else (f_X4_join s36.2 (s36.2 i26) (s36.2 i36))) else s36.2) → lv_has ls 4 [(3, .int (nI i36)), (2, .int (nI i26)), (1, .int v_20), (0, .ref (q 0))] → va_P G classes [stC q cI beams speeds phases springs strikes ways kickSums nearTicks gives settings ticks kicks strikeTicks pulls v_21].flatten H → va_D A [stC q cI beams speeds phases springs strikes ways kickSums nearTicks gives settings ticks kicks strikeTicks pulls v_21].flatten → va_S A s.heap H locs → W p l e ({ frames := 1, cells := 0, slots := 0, locals := 23 } : Room) s m args below meth c H locs 0 0 QQ (F0 m 85 ls []) := by
          intro v_20 v_21 ls H locs e_v_20 e_v_21 hl hP hD hS
          subst e_v_20 e_v_21
          refine nv_iinc (k := 0) (lv' := [(3, .int (nI (i36 + 1))), (2, .int (nI i26)), (1, .int (if (f_X4_areLocked nearTicks settings i26 i36) = true then (if (s36.2 i26) = (s36.2 i36) then s36.1 else (s36.1 + (-1 : Int32))) else s36.1)), (0, .ref (q 0))]) hx hb i36 dX4_groupsByJoining_85 hl rfl (by decide) rfl (fun ls hl => ?_)
          refine lv_goto (tgt := 36) hx hb dX4_groupsByJoining_88 (by decide) ?_
          exact ih _ _ _ (lv_sub hl [0, 1, 2, 3] rfl) hP hD hS
        refine bv_ifeq hx hb (f_X4_areLocked nearTicks settings i26 i36) 85 dX4_groupsByJoining_48 (by decide) (fun c_11 => ?_) (fun c_11 => ?_)
        · exact hM_22 s36.1 s36.2 _ _ _ (if_neg c_11).symm (if_neg c_11).symm (lv_sub hl [0, 1, 2, 3] rfl) hP hD hS
        · refine lv_aload_n hx hb dX4_groupsByJoining_51 rfl (lv_at hl 3 rfl) ?_
          refine va_get (D := G) (ci := 2) (C := RX4) (T := TX4) (N := 15) hx hb hw in_X4 hown hK hP 0 rfl rfl 14 (by decide) (hw _ aw_87) (fun _ h9 => h9) rfl dX4_groupsByJoining_52 ?_
          refine lv_iload_n hx hb dX4_groupsByJoining_55 rfl (lv_at hl 1 rfl) ?_
          refine nv_iald hx hb hK hP 12 0 rfl rfl i26 (by omega) (by decide) dX4_groupsByJoining_56 ?_
          refine lv_aload_n hx hb dX4_groupsByJoining_57 rfl (lv_at hl 3 rfl) ?_
          refine va_get (D := G) (ci := 2) (C := RX4) (T := TX4) (N := 15) hx hb hw in_X4 hown hK hP 0 rfl rfl 14 (by decide) (hw _ aw_87) (fun _ h9 => h9) rfl dX4_groupsByJoining_58 ?_
          refine lv_iload_n hx hb dX4_groupsByJoining_61 rfl (lv_at hl 0 rfl) ?_
          refine nv_iald hx hb hK hP 12 0 rfl rfl i36 (by omega) (by decide) dX4_groupsByJoining_62 ?_
          have hM_18 : ∀ (v_16 : Int32) (v_17 : Nat → Int32) (ls : Array Slot) (H : Heap) (locs : List Loc), v_16 = (if (s36.2 i26) = (s36.2 i36) then s36.1 else (s36.1 + (-1 : Int32))) → v_17 = (if (s36.2 i26) = (s36.2 i36) then s36.2 else (f_X4_join s36.2 (s36.2 i26) (s36.2 i36))) → lv_has ls 4 [(3, .int (nI i36)), (2, .int (nI i26)), (1, .int v_16), (0, .ref (q 0))] → va_P G classes [stC q cI beams speeds phases springs strikes ways kickSums nearTicks gives settings ticks kicks strikeTicks pulls v_17].flatten H → va_D A [stC q cI beams speeds phases springs strikes ways kickSums nearTicks gives settings ticks kicks strikeTicks pulls v_17].flatten → va_S A s.heap H locs → W p l e ({ frames := 1, cells := 0, slots := 0, locals := 23 } : Room) s m args below meth c H locs 0 0 QQ (F0 m 85 ls []) := by
            intro v_16 v_17 ls H locs e_v_16 e_v_17 hl hP hD hS
            subst e_v_16 e_v_17
            exact hM_22 (if (s36.2 i26) = (s36.2 i36) then s36.1 else (s36.1 + (-1 : Int32))) (if (s36.2 i26) = (s36.2 i36) then s36.2 else (f_X4_join s36.2 (s36.2 i26) (s36.2 i36))) _ _ _ (if_pos c_11).symm (if_pos c_11).symm (lv_sub hl [0, 1, 2, 3] rfl) hP hD hS
          refine lv_icmp_eq (tgt := 85) hx hb dX4_groupsByJoining_63 (by decide) (fun c_13 => ?_) (fun c_13 => ?_)
          · exact hM_18 s36.1 s36.2 _ _ _ (if_pos c_13).symm (if_pos c_13).symm (lv_sub hl [0, 1, 2, 3] rfl) hP hD hS
          · refine lv_aload_n hx hb dX4_groupsByJoining_66 rfl (lv_at hl 3 rfl) ?_
            refine lv_aload_n hx hb dX4_groupsByJoining_67 rfl (lv_at hl 3 rfl) ?_
            refine va_get (D := G) (ci := 2) (C := RX4) (T := TX4) (N := 15) hx hb hw in_X4 hown hK hP 0 rfl rfl 14 (by decide) (hw _ aw_87) (fun _ h9 => h9) rfl dX4_groupsByJoining_68 ?_
            refine lv_iload_n hx hb dX4_groupsByJoining_71 rfl (lv_at hl 1 rfl) ?_
            refine nv_iald hx hb hK hP 12 0 rfl rfl i26 (by omega) (by decide) dX4_groupsByJoining_72 ?_
            refine lv_aload_n hx hb dX4_groupsByJoining_73 rfl (lv_at hl 3 rfl) ?_
            refine va_get (D := G) (ci := 2) (C := RX4) (T := TX4) (N := 15) hx hb hw in_X4 hown hK hP 0 rfl rfl 14 (by decide) (hw _ aw_87) (fun _ h9 => h9) rfl dX4_groupsByJoining_74 ?_
            refine lv_iload_n hx hb dX4_groupsByJoining_77 rfl (lv_at hl 0 rfl) ?_
            refine nv_iald hx hb hK hP 12 0 rfl rfl i36 (by omega) (by decide) dX4_groupsByJoining_78 ?_
            refine ct_callV (As := [.int (s36.2 i26), .int (s36.2 i36)]) (rest := []) X hP hD hS hA (k_X4_join l G cI cS cL q beams speeds phases springs strikes ways kickSums nearTicks gives settings ticks kicks strikeTicks pulls s36.2 (s36.2 i26) (s36.2 i36)) cp_X4_join aw_314 ⟨Nat.le_of_ble_eq_true rfl, Nat.le_of_ble_eq_true rfl⟩ [0] (cs := [stC q cI beams speeds phases springs strikes ways kickSums nearTicks gives settings ticks kicks strikeTicks pulls s36.2]) rfl (by decide) (cs' := [stC q cI beams speeds phases springs strikes ways kickSums nearTicks gives settings ticks kicks strikeTicks pulls (f_X4_join s36.2 (s36.2 i26) (s36.2 i36))]) rfl rfl 2 rfl rfl (q0 := 0) rfl rfl hl.1 rfl (Nat.le_of_ble_eq_true rfl) dX4_groupsByJoining_79 ⟨Nat.zero_le _, Nat.zero_le _⟩ rfl (bs' := [stC q cI beams speeds phases springs strikes ways kickSums nearTicks gives settings ticks kicks strikeTicks pulls (f_X4_join s36.2 (s36.2 i26) (s36.2 i36))]) rfl (fun H locs hP hD hS => ?_)
            refine lv_iinc (v := (s36.1 + (-1 : Int32))) (k := 2) (lv' := [(1, .int (s36.1 + (-1 : Int32))), (3, .int (nI i36)), (2, .int (nI i26)), (0, .ref (q 0))]) hx hb dX4_groupsByJoining_82 hl rfl rfl (by decide) rfl (fun ls hl => ?_)
            exact hM_18 (s36.1 + (-1 : Int32)) (f_X4_join s36.2 (s36.2 i26) (s36.2 i36)) _ _ _ (if_neg c_13).symm (if_neg c_13).symm (lv_sub hl [1, 2, 0, 3] rfl) hP hD hS
      · intro ls H locs hl hP hD hS
        refine lv_iload_n hx hb dX4_groupsByJoining_36 rfl (lv_at hl 0 rfl) ?_
        refine lv_bipush (v := 8) hx hb dX4_groupsByJoining_37 (by decide) ?_
        refine nv_ge hx hb 8 8 91 (by omega) (by omega) dX4_groupsByJoining_39 (by decide) (fun _ => ?_) (fun hc => absurd hc (by omega))
        refine nv_iinc (k := 1) (lv' := [(2, .int (nI (i26 + 1))), (3, .int (nI 8)), (1, .int ((it (L_X4_groupsByJoining_36 nearTicks settings i26) (i26 + 1) (8 - (i26 + 1)) s26).1)), (0, .ref (q 0))]) hx hb i26 dX4_groupsByJoining_91 hl rfl (by decide) rfl (fun ls hl => ?_)
        refine lv_goto (tgt := 26) hx hb dX4_groupsByJoining_94 (by decide) ?_
        exact ih _ _ _ (lv_sub hl [0, 2, 3] rfl) hP hD hS
    · intro ls H locs hl hP hD hS
      refine lv_iload_n hx hb dX4_groupsByJoining_26 rfl (lv_at hl 0 rfl) ?_
      refine lv_bipush (v := 8) hx hb dX4_groupsByJoining_27 (by decide) ?_
      refine nv_ge hx hb 8 8 97 (by omega) (by omega) dX4_groupsByJoining_29 (by decide) (fun _ => ?_) (fun hc => absurd hc (by omega))
      refine lv_iload_n hx hb dX4_groupsByJoining_97 rfl (lv_at hl 1 rfl) ?_
      rw [← hQQ]; exact W.iret hx hb hr (ct_end (F := (f_X4_groupsByJoining nearTicks settings leaders)) (u := (it (L_X4_groupsByJoining_26 nearTicks settings) 0 8 ((8 : Int32), (it L_X4_groupsByJoining_2 0 8 leaders)))) (rf := (fun u => some (.int u.1))) (wf := (fun u => [stC q cI beams speeds phases springs strikes ways kickSums nearTicks gives settings ticks kicks strikeTicks pulls u.2].flatten)) rfl rfl hP hD hS) hS.2.2 dX4_groupsByJoining_98
set_option maxRecDepth 100000 in
set_option maxHeartbeats 4000000 in
theorem k_X4_groupsByWalking (l : Launch) (G : va_G) (cI cS cL : ClassId) (q : Nat → Nat) (beams : Nat → Int32) (speeds : Nat → Int32) (phases : Nat → Int32) (springs : Nat → Int32) (strikes : Nat → Int32) (ways : Nat → Int32) (kickSums : Nat → Int32) (nearTicks : Nat → Int32) (gives : Nat → Int32) (settings : Nat → Int32) (ticks : Int32) (kicks : Int32) (strikeTicks : Int32) (pulls : Nat → Int32) (leaders : Nat → Int32) : Ct l G (tyl cI cS cL) yX4_groupsByWalking cX4_groupsByWalking 4 (some (Jvm.ClassFile.FieldType.int)) 3 69 0 0 [.ref (q 0)] [stC q cI beams speeds phases springs strikes ways kickSums nearTicks gives settings ticks kicks strikeTicks pulls leaders].flatten (f_X4_groupsByWalking nearTicks settings) (fun u => some (.int u)) (fun _ => [stC q cI beams speeds phases springs strikes ways kickSums nearTicks gives settings ticks kicks strikeTicks pulls leaders].flatten) := by
  refine Ct.of (by decide +kernel) (Nat.le_of_ble_eq_true rfl) ?_
  intro p e s m args below meth c A ls hx hb hr hml hw hown hlocks hin hK hN hP hD hS hA hl
  have hown : s.vm.findClass RX4 = some m.cls := hown
  have X : Cx p s m args c cX4_groupsByWalking 4 RX4 G (tyl cI cS cL) := ⟨hx, hb, hml, hown, hw, hK, hN⟩
  have hP : va_P G classes [stC q cI beams speeds phases springs strikes ways kickSums nearTicks gives settings ticks kicks strikeTicks pulls leaders].flatten s.heap := hP
  have hl : lv_has ls 4 [(0, .ref (q 0))] := hl
  generalize hQQ : MQ below _ args s 0 0 A = QQ
  refine lv_iconst (v := 0) hx hb dX4_groupsByWalking_0 (by decide) ?_
  refine lv_istore_n (lv' := [(1, .int (0 : Int32)), (0, .ref (q 0))]) hx hb dX4_groupsByWalking_1 rfl hl (by decide) rfl (fun ls hl => ?_)
  refine lv_iconst (v := 0) hx hb dX4_groupsByWalking_2 (by decide) ?_
  refine lv_istore_n (lv' := [(2, .int (0 : Int32)), (1, .int (0 : Int32)), (0, .ref (q 0))]) hx hb dX4_groupsByWalking_3 rfl hl (by decide) rfl (fun ls hl => ?_)
  refine lv_iconst (v := 0) hx hb dX4_groupsByWalking_4 (by decide) ?_
  refine lv_istore_n (lv' := [(3, .int (0 : Int32)), (2, .int (0 : Int32)), (1, .int (0 : Int32)), (0, .ref (q 0))]) hx hb dX4_groupsByWalking_5 rfl hl (by decide) rfl (fun ls hl => ?_)
  refine it_loop (f := (L_X4_groupsByWalking_6 nearTicks settings)) 8 (fun (i6 : Nat) (s6 : Int32 × Int32) => ∀ (ls : Array Slot) (H : Heap) (locs : List Loc), lv_has ls 4 [(3, .int (nI i6)), (2, .int s6.1), (1, .int s6.2), (0, .ref (q 0))] → va_P G classes [stC q cI beams speeds phases springs strikes ways kickSums nearTicks gives settings ticks kicks strikeTicks pulls leaders].flatten H → va_D A [stC q cI beams speeds phases springs strikes ways kickSums nearTicks gives settings ticks kicks strikeTicks pulls leaders].flatten → va_S A s.heap H locs → W p l e ({ frames := 3, cells := 0, slots := 0, locals := 69 } : Room) s m args below meth c H locs 0 0 QQ (F0 m 6 ls [])) (fun i6 s6 hi6 ih => ?_) 8 0 ((0 : Int32), (0 : Int32)) (by omega) ?_ ls _ _ (lv_sub hl [0, 1, 2, 3] rfl) hP hD hS
  · intro ls H locs hl hP hD hS
    refine lv_iload_n hx hb dX4_groupsByWalking_6 rfl (lv_at hl 0 rfl) ?_
    refine lv_bipush (v := 8) hx hb dX4_groupsByWalking_7 (by decide) ?_
    refine nv_ge hx hb i6 8 37 (by omega) (by omega) dX4_groupsByWalking_9 (by decide) (fun hc => absurd hc (by omega)) (fun _ => ?_)
    refine lv_iload_n hx hb dX4_groupsByWalking_12 rfl (lv_at hl 1 rfl) ?_
    refine lv_iload_n hx hb dX4_groupsByWalking_13 rfl (lv_at hl 0 rfl) ?_
    refine ct_callS (As := [.int s6.1, .int (nI i6)]) (rest := []) X hP hD hS hA (k_X4_isIn l G cI cS cL  s6.1 i6) cq_X4_isIn aw_322 ⟨Nat.le_of_ble_eq_true rfl, Nat.le_of_ble_eq_true rfl⟩ ([] : List Nat) (cs := []) rfl (by decide) (cs' := []) rfl rfl rfl hl.1 rfl (Nat.le_of_ble_eq_true rfl) dX4_groupsByWalking_14 ⟨Nat.zero_le _, Nat.zero_le _⟩ rfl (bs' := [stC q cI beams speeds phases springs strikes ways kickSums nearTicks gives settings ticks kicks strikeTicks pulls leaders]) rfl (fun H locs hP hD hS => ?_)
    have hM_8 : ∀ (v_6 : Int32) (v_7 : Int32) (ls : Array Slot) (H : Heap) (locs : List Loc), v_6 = (if (f_X4_isIn s6.1 i6) = true then s6.1 else (s6.1 ||| (f_X4_groupMask nearTicks settings i6))) → v_7 = (if (f_X4_isIn s6.1 i6) = true then s6.2 else (s6.2 + (1 : Int32))) → lv_has ls 4 [(3, .int (nI i6)), (2, .int v_6), (1, .int v_7), (0, .ref (q 0))] → va_P G classes [stC q cI beams speeds phases springs strikes ways kickSums nearTicks gives settings ticks kicks strikeTicks pulls leaders].flatten H → va_D A [stC q cI beams speeds phases springs strikes ways kickSums nearTicks gives settings ticks kicks strikeTicks pulls leaders].flatten → va_S A s.heap H locs → W p l e ({ frames := 3, cells := 0, slots := 0, locals := 69 } : Room) s m args below meth c H locs 0 0 QQ (F0 m 31 ls []) := by
      intro v_6 v_7 ls H locs e_v_6 e_v_7 hl hP hD hS
      subst e_v_6 e_v_7
      refine nv_iinc (k := 0) (lv' := [(3, .int (nI (i6 + 1))), (2, .int (if (f_X4_isIn s6.1 i6) = true then s6.1 else (s6.1 ||| (f_X4_groupMask nearTicks settings i6)))), (1, .int (if (f_X4_isIn s6.1 i6) = true then s6.2 else (s6.2 + (1 : Int32)))), (0, .ref (q 0))]) hx hb i6 dX4_groupsByWalking_31 hl rfl (by decide) rfl (fun ls hl => ?_)
      refine lv_goto (tgt := 6) hx hb dX4_groupsByWalking_34 (by decide) ?_
      exact ih _ _ _ (lv_sub hl [0, 1, 2, 3] rfl) hP hD hS
    refine bv_ifne hx hb (f_X4_isIn s6.1 i6) 31 dX4_groupsByWalking_17 (by decide) (fun c_3 => ?_) (fun c_3 => ?_)
    · exact hM_8 s6.1 s6.2 _ _ _ (if_pos c_3).symm (if_pos c_3).symm (lv_sub hl [0, 1, 2, 3] rfl) hP hD hS
    · refine lv_iload_n hx hb dX4_groupsByWalking_20 rfl (lv_at hl 1 rfl) ?_
      refine lv_aload_n hx hb dX4_groupsByWalking_21 rfl (lv_at hl 3 rfl) ?_
      refine lv_iload_n hx hb dX4_groupsByWalking_22 rfl (lv_at hl 0 rfl) ?_
      refine ct_callV (As := [.int (nI i6)]) (rest := [.int s6.1]) X hP hD hS hA (k_X4_groupMask l G cI cS cL q beams speeds phases springs strikes ways kickSums nearTicks gives settings ticks kicks strikeTicks pulls leaders i6 (by omega)) cp_X4_groupMask aw_325 ⟨Nat.le_of_ble_eq_true rfl, Nat.le_of_ble_eq_true rfl⟩ [0] (cs := [stC q cI beams speeds phases springs strikes ways kickSums nearTicks gives settings ticks kicks strikeTicks pulls leaders]) rfl (by decide) (cs' := [stC q cI beams speeds phases springs strikes ways kickSums nearTicks gives settings ticks kicks strikeTicks pulls leaders]) rfl rfl 2 rfl rfl (q0 := 0) rfl rfl hl.1 rfl (Nat.le_of_ble_eq_true rfl) dX4_groupsByWalking_23 ⟨Nat.zero_le _, Nat.zero_le _⟩ rfl (bs' := [stC q cI beams speeds phases springs strikes ways kickSums nearTicks gives settings ticks kicks strikeTicks pulls leaders]) rfl (fun H locs hP hD hS => ?_)
      refine lv_ior hx hb dX4_groupsByWalking_26 ?_
      refine lv_istore_n (lv' := [(2, .int (s6.1 ||| (f_X4_groupMask nearTicks settings i6))), (3, .int (nI i6)), (1, .int s6.2), (0, .ref (q 0))]) hx hb dX4_groupsByWalking_27 rfl hl (by decide) rfl (fun ls hl => ?_)
      refine lv_iinc (v := (s6.2 + (1 : Int32))) (k := 2) (lv' := [(1, .int (s6.2 + (1 : Int32))), (2, .int (s6.1 ||| (f_X4_groupMask nearTicks settings i6))), (3, .int (nI i6)), (0, .ref (q 0))]) hx hb dX4_groupsByWalking_28 hl rfl rfl (by decide) rfl (fun ls hl => ?_)
      exact hM_8 (s6.1 ||| (f_X4_groupMask nearTicks settings i6)) (s6.2 + (1 : Int32)) _ _ _ (if_neg c_3).symm (if_neg c_3).symm (lv_sub hl [2, 1, 0, 3] rfl) hP hD hS
  · intro ls H locs hl hP hD hS
    refine lv_iload_n hx hb dX4_groupsByWalking_6 rfl (lv_at hl 0 rfl) ?_
    refine lv_bipush (v := 8) hx hb dX4_groupsByWalking_7 (by decide) ?_
    refine nv_ge hx hb 8 8 37 (by omega) (by omega) dX4_groupsByWalking_9 (by decide) (fun _ => ?_) (fun hc => absurd hc (by omega))
    refine lv_iload_n hx hb dX4_groupsByWalking_37 rfl (lv_at hl 2 rfl) ?_
    rw [← hQQ]; exact W.iret hx hb hr (ct_end (F := (f_X4_groupsByWalking nearTicks settings)) (u := (it (L_X4_groupsByWalking_6 nearTicks settings) 0 8 ((0 : Int32), (0 : Int32))).2) (rf := (fun u => some (.int u))) (wf := (fun _ => [stC q cI beams speeds phases springs strikes ways kickSums nearTicks gives settings ticks kicks strikeTicks pulls leaders].flatten)) rfl rfl hP hD hS) hS.2.2 dX4_groupsByWalking_38
set_option maxRecDepth 100000 in
set_option maxHeartbeats 4000000 in
theorem k_X4_lockedPairs (l : Launch) (G : va_G) (cI cS cL : ClassId) (q : Nat → Nat) (beams : Nat → Int32) (speeds : Nat → Int32) (phases : Nat → Int32) (springs : Nat → Int32) (strikes : Nat → Int32) (ways : Nat → Int32) (kickSums : Nat → Int32) (nearTicks : Nat → Int32) (gives : Nat → Int32) (settings : Nat → Int32) (ticks : Int32) (kicks : Int32) (strikeTicks : Int32) (pulls : Nat → Int32) (leaders : Nat → Int32) : Ct l G (tyl cI cS cL) yX4_lockedPairs cX4_lockedPairs 4 (some (Jvm.ClassFile.FieldType.int)) 1 22 0 0 [.ref (q 0)] [stC q cI beams speeds phases springs strikes ways kickSums nearTicks gives settings ticks kicks strikeTicks pulls leaders].flatten (f_X4_lockedPairs nearTicks settings) (fun u => some (.int u)) (fun _ => [stC q cI beams speeds phases springs strikes ways kickSums nearTicks gives settings ticks kicks strikeTicks pulls leaders].flatten) := by
  refine Ct.of (by decide +kernel) (Nat.le_of_ble_eq_true rfl) ?_
  intro p e s m args below meth c A ls hx hb hr hml hw hown hlocks hin hK hN hP hD hS hA hl
  have hown : s.vm.findClass RX4 = some m.cls := hown
  have X : Cx p s m args c cX4_lockedPairs 4 RX4 G (tyl cI cS cL) := ⟨hx, hb, hml, hown, hw, hK, hN⟩
  have hP : va_P G classes [stC q cI beams speeds phases springs strikes ways kickSums nearTicks gives settings ticks kicks strikeTicks pulls leaders].flatten s.heap := hP
  have hl : lv_has ls 4 [(0, .ref (q 0))] := hl
  generalize hQQ : MQ below _ args s 0 0 A = QQ
  refine lv_iconst (v := 0) hx hb dX4_lockedPairs_0 (by decide) ?_
  refine lv_istore_n (lv' := [(1, .int (0 : Int32)), (0, .ref (q 0))]) hx hb dX4_lockedPairs_1 rfl hl (by decide) rfl (fun ls hl => ?_)
  refine lv_iconst (v := 0) hx hb dX4_lockedPairs_2 (by decide) ?_
  refine lv_istore_n (lv' := [(2, .int (0 : Int32)), (1, .int (0 : Int32)), (0, .ref (q 0))]) hx hb dX4_lockedPairs_3 rfl hl (by decide) rfl (fun ls hl => ?_)
  refine it_loop (f := (L_X4_lockedPairs_4 nearTicks settings)) 8 (fun (i4 : Nat) (s4 : Int32) => ∀ (ls : Array Slot) (H : Heap) (locs : List Loc), lv_has ls 4 [(2, .int (nI i4)), (1, .int s4), (0, .ref (q 0))] → va_P G classes [stC q cI beams speeds phases springs strikes ways kickSums nearTicks gives settings ticks kicks strikeTicks pulls leaders].flatten H → va_D A [stC q cI beams speeds phases springs strikes ways kickSums nearTicks gives settings ticks kicks strikeTicks pulls leaders].flatten → va_S A s.heap H locs → W p l e ({ frames := 1, cells := 0, slots := 0, locals := 22 } : Room) s m args below meth c H locs 0 0 QQ (F0 m 4 ls [])) (fun i4 s4 hi4 ih => ?_) 8 0 (0 : Int32) (by omega) ?_ ls _ _ (lv_sub hl [0, 1, 2] rfl) hP hD hS
  · intro ls H locs hl hP hD hS
    refine lv_iload_n hx hb dX4_lockedPairs_4 rfl (lv_at hl 0 rfl) ?_
    refine lv_bipush (v := 8) hx hb dX4_lockedPairs_5 (by decide) ?_
    refine nv_ge hx hb i4 8 44 (by omega) (by omega) dX4_lockedPairs_7 (by decide) (fun hc => absurd hc (by omega)) (fun _ => ?_)
    refine lv_iload_n hx hb dX4_lockedPairs_10 rfl (lv_at hl 0 rfl) ?_
    refine lv_iconst (v := 1) hx hb dX4_lockedPairs_11 (by decide) ?_
    refine nv_iadd hx hb i4 1 dX4_lockedPairs_12 ?_
    refine lv_istore_n (lv' := [(3, .int (nI (i4 + 1))), (2, .int (nI i4)), (1, .int s4), (0, .ref (q 0))]) hx hb dX4_lockedPairs_13 rfl hl (by decide) rfl (fun ls hl => ?_)
    refine it_loop (f := (L_X4_lockedPairs_14 nearTicks settings i4)) 8 (fun (i14 : Nat) (s14 : Int32) => ∀ (ls : Array Slot) (H : Heap) (locs : List Loc), lv_has ls 4 [(3, .int (nI i14)), (2, .int (nI i4)), (1, .int s14), (0, .ref (q 0))] → va_P G classes [stC q cI beams speeds phases springs strikes ways kickSums nearTicks gives settings ticks kicks strikeTicks pulls leaders].flatten H → va_D A [stC q cI beams speeds phases springs strikes ways kickSums nearTicks gives settings ticks kicks strikeTicks pulls leaders].flatten → va_S A s.heap H locs → W p l e ({ frames := 1, cells := 0, slots := 0, locals := 22 } : Room) s m args below meth c H locs 0 0 QQ (F0 m 14 ls [])) (fun i14 s14 hi14 ih => ?_) (8 - (i4 + 1)) (i4 + 1) s4 (by omega) ?_ ls _ _ (lv_sub hl [0, 1, 2, 3] rfl) hP hD hS
    · intro ls H locs hl hP hD hS
      refine lv_iload_n hx hb dX4_lockedPairs_14 rfl (lv_at hl 0 rfl) ?_
      refine lv_bipush (v := 8) hx hb dX4_lockedPairs_15 (by decide) ?_
      refine nv_ge hx hb i14 8 38 (by omega) (by omega) dX4_lockedPairs_17 (by decide) (fun hc => absurd hc (by omega)) (fun _ => ?_)
      refine lv_aload_n hx hb dX4_lockedPairs_20 rfl (lv_at hl 3 rfl) ?_
      refine lv_iload_n hx hb dX4_lockedPairs_21 rfl (lv_at hl 1 rfl) ?_
      refine lv_iload_n hx hb dX4_lockedPairs_22 rfl (lv_at hl 0 rfl) ?_
      refine ct_callV (As := [.int (nI i4), .int (nI i14)]) (rest := []) X hP hD hS hA (k_X4_areLocked l G cI cS cL q beams speeds phases springs strikes ways kickSums nearTicks gives settings ticks kicks strikeTicks pulls leaders i4 i14 (by omega) (by omega)) cp_X4_areLocked aw_306 ⟨Nat.le_of_ble_eq_true rfl, Nat.le_of_ble_eq_true rfl⟩ [0] (cs := [stC q cI beams speeds phases springs strikes ways kickSums nearTicks gives settings ticks kicks strikeTicks pulls leaders]) rfl (by decide) (cs' := [stC q cI beams speeds phases springs strikes ways kickSums nearTicks gives settings ticks kicks strikeTicks pulls leaders]) rfl rfl 2 rfl rfl (q0 := 0) rfl rfl hl.1 rfl (Nat.le_of_ble_eq_true rfl) dX4_lockedPairs_23 ⟨Nat.zero_le _, Nat.zero_le _⟩ rfl (bs' := [stC q cI beams speeds phases springs strikes ways kickSums nearTicks gives settings ticks kicks strikeTicks pulls leaders]) rfl (fun H locs hP hD hS => ?_)
      have hM_9 : ∀ (v_8 : Int32) (ls : Array Slot) (H : Heap) (locs : List Loc), v_8 = (if (f_X4_areLocked nearTicks settings i4 i14) = true then (s14 + (1 : Int32)) else s14) → lv_has ls 4 [(1, .int v_8), (3, .int (nI i14)), (2, .int (nI i4)), (0, .ref (q 0))] → va_P G classes [stC q cI beams speeds phases springs strikes ways kickSums nearTicks gives settings ticks kicks strikeTicks pulls leaders].flatten H → va_D A [stC q cI beams speeds phases springs strikes ways kickSums nearTicks gives settings ticks kicks strikeTicks pulls leaders].flatten → va_S A s.heap H locs → W p l e ({ frames := 1, cells := 0, slots := 0, locals := 22 } : Room) s m args below meth c H locs 0 0 QQ (F0 m 32 ls []) := by
        intro v_8 ls H locs e_v_8 hl hP hD hS
        subst e_v_8
        refine nv_iinc (k := 1) (lv' := [(3, .int (nI (i14 + 1))), (1, .int (if (f_X4_areLocked nearTicks settings i4 i14) = true then (s14 + (1 : Int32)) else s14)), (2, .int (nI i4)), (0, .ref (q 0))]) hx hb i14 dX4_lockedPairs_32 hl rfl (by decide) rfl (fun ls hl => ?_)
        refine lv_goto (tgt := 14) hx hb dX4_lockedPairs_35 (by decide) ?_
        exact ih _ _ _ (lv_sub hl [0, 2, 1, 3] rfl) hP hD hS
      refine bv_ifeq hx hb (f_X4_areLocked nearTicks settings i4 i14) 32 dX4_lockedPairs_26 (by decide) (fun c_5 => ?_) (fun c_5 => ?_)
      · exact hM_9 s14 _ _ _ (if_neg c_5).symm (lv_sub hl [2, 0, 1, 3] rfl) hP hD hS
      · refine lv_iinc (v := (s14 + (1 : Int32))) (k := 2) (lv' := [(1, .int (s14 + (1 : Int32))), (3, .int (nI i14)), (2, .int (nI i4)), (0, .ref (q 0))]) hx hb dX4_lockedPairs_29 hl rfl rfl (by decide) rfl (fun ls hl => ?_)
        exact hM_9 (s14 + (1 : Int32)) _ _ _ (if_pos c_5).symm (lv_sub hl [0, 1, 2, 3] rfl) hP hD hS
    · intro ls H locs hl hP hD hS
      refine lv_iload_n hx hb dX4_lockedPairs_14 rfl (lv_at hl 0 rfl) ?_
      refine lv_bipush (v := 8) hx hb dX4_lockedPairs_15 (by decide) ?_
      refine nv_ge hx hb 8 8 38 (by omega) (by omega) dX4_lockedPairs_17 (by decide) (fun _ => ?_) (fun hc => absurd hc (by omega))
      refine nv_iinc (k := 1) (lv' := [(2, .int (nI (i4 + 1))), (3, .int (nI 8)), (1, .int (it (L_X4_lockedPairs_14 nearTicks settings i4) (i4 + 1) (8 - (i4 + 1)) s4)), (0, .ref (q 0))]) hx hb i4 dX4_lockedPairs_38 hl rfl (by decide) rfl (fun ls hl => ?_)
      refine lv_goto (tgt := 4) hx hb dX4_lockedPairs_41 (by decide) ?_
      exact ih _ _ _ (lv_sub hl [0, 2, 3] rfl) hP hD hS
  · intro ls H locs hl hP hD hS
    refine lv_iload_n hx hb dX4_lockedPairs_4 rfl (lv_at hl 0 rfl) ?_
    refine lv_bipush (v := 8) hx hb dX4_lockedPairs_5 (by decide) ?_
    refine nv_ge hx hb 8 8 44 (by omega) (by omega) dX4_lockedPairs_7 (by decide) (fun _ => ?_) (fun hc => absurd hc (by omega))
    refine lv_iload_n hx hb dX4_lockedPairs_44 rfl (lv_at hl 1 rfl) ?_
    rw [← hQQ]; exact W.iret hx hb hr (ct_end (F := (f_X4_lockedPairs nearTicks settings)) (u := (it (L_X4_lockedPairs_4 nearTicks settings) 0 8 (0 : Int32))) (rf := (fun u => some (.int u))) (wf := (fun _ => [stC q cI beams speeds phases springs strikes ways kickSums nearTicks gives settings ticks kicks strikeTicks pulls leaders].flatten)) rfl rfl hP hD hS) hS.2.2 dX4_lockedPairs_45
set_option maxRecDepth 100000 in
set_option maxHeartbeats 4000000 in
theorem k_X4_strikesOfAll (l : Launch) (G : va_G) (cI cS cL : ClassId) (q : Nat → Nat) (beams : Nat → Int32) (speeds : Nat → Int32) (phases : Nat → Int32) (springs : Nat → Int32) (strikes : Nat → Int32) (ways : Nat → Int32) (kickSums : Nat → Int32) (nearTicks : Nat → Int32) (gives : Nat → Int32) (settings : Nat → Int32) (ticks : Int32) (kicks : Int32) (strikeTicks : Int32) (pulls : Nat → Int32) (leaders : Nat → Int32) : Ct l G (tyl cI cS cL) yX4_strikesOfAll cX4_strikesOfAll 3 (some (Jvm.ClassFile.FieldType.int)) 0 0 0 0 [.ref (q 0)] [stC q cI beams speeds phases springs strikes ways kickSums nearTicks gives settings ticks kicks strikeTicks pulls leaders].flatten (f_X4_strikesOfAll strikes) (fun u => some (.int u)) (fun _ => [stC q cI beams speeds phases springs strikes ways kickSums nearTicks gives settings ticks kicks strikeTicks pulls leaders].flatten) := by
  refine Ct.of (by decide +kernel) (Nat.le_of_ble_eq_true rfl) ?_
  intro p e s m args below meth c A ls hx hb hr hml hw hown hlocks hin hK hN hP hD hS hA hl
  have hown : s.vm.findClass RX4 = some m.cls := hown
  have X : Cx p s m args c cX4_strikesOfAll 3 RX4 G (tyl cI cS cL) := ⟨hx, hb, hml, hown, hw, hK, hN⟩
  have hP : va_P G classes [stC q cI beams speeds phases springs strikes ways kickSums nearTicks gives settings ticks kicks strikeTicks pulls leaders].flatten s.heap := hP
  have hl : lv_has ls 3 [(0, .ref (q 0))] := hl
  generalize hQQ : MQ below _ args s 0 0 A = QQ
  refine lv_iconst (v := 0) hx hb dX4_strikesOfAll_0 (by decide) ?_
  refine lv_istore_n (lv' := [(1, .int (0 : Int32)), (0, .ref (q 0))]) hx hb dX4_strikesOfAll_1 rfl hl (by decide) rfl (fun ls hl => ?_)
  refine lv_iconst (v := 0) hx hb dX4_strikesOfAll_2 (by decide) ?_
  refine lv_istore_n (lv' := [(2, .int (0 : Int32)), (1, .int (0 : Int32)), (0, .ref (q 0))]) hx hb dX4_strikesOfAll_3 rfl hl (by decide) rfl (fun ls hl => ?_)
  refine it_loop (f := (L_X4_strikesOfAll_4 strikes)) 8 (fun (i4 : Nat) (s4 : Int32) => ∀ (ls : Array Slot) (H : Heap) (locs : List Loc), lv_has ls 3 [(2, .int (nI i4)), (1, .int s4), (0, .ref (q 0))] → va_P G classes [stC q cI beams speeds phases springs strikes ways kickSums nearTicks gives settings ticks kicks strikeTicks pulls leaders].flatten H → va_D A [stC q cI beams speeds phases springs strikes ways kickSums nearTicks gives settings ticks kicks strikeTicks pulls leaders].flatten → va_S A s.heap H locs → W p l e ({ frames := 0, cells := 0, slots := 0, locals := 0 } : Room) s m args below meth c H locs 0 0 QQ (F0 m 4 ls [])) (fun i4 s4 hi4 ih => ?_) 8 0 (0 : Int32) (by omega) ?_ ls _ _ (lv_sub hl [0, 1, 2] rfl) hP hD hS
  · intro ls H locs hl hP hD hS
    refine lv_iload_n hx hb dX4_strikesOfAll_4 rfl (lv_at hl 0 rfl) ?_
    refine lv_bipush (v := 8) hx hb dX4_strikesOfAll_5 (by decide) ?_
    refine nv_ge hx hb i4 8 25 (by omega) (by omega) dX4_strikesOfAll_7 (by decide) (fun hc => absurd hc (by omega)) (fun _ => ?_)
    refine lv_iload_n hx hb dX4_strikesOfAll_10 rfl (lv_at hl 1 rfl) ?_
    refine lv_aload_n hx hb dX4_strikesOfAll_11 rfl (lv_at hl 2 rfl) ?_
    refine va_get (D := G) (ci := 2) (C := RX4) (T := TX4) (N := 15) hx hb hw in_X4 hown hK hP 0 rfl rfl 4 (by decide) (hw _ aw_73) (fun _ h9 => h9) rfl dX4_strikesOfAll_12 ?_
    refine lv_iload_n hx hb dX4_strikesOfAll_15 rfl (lv_at hl 0 rfl) ?_
    refine nv_iald hx hb hK hP 5 0 rfl rfl i4 (by omega) (by decide) dX4_strikesOfAll_16 ?_
    refine lv_iadd hx hb dX4_strikesOfAll_17 ?_
    refine lv_istore_n (lv' := [(1, .int (s4 + (strikes i4))), (2, .int (nI i4)), (0, .ref (q 0))]) hx hb dX4_strikesOfAll_18 rfl hl (by decide) rfl (fun ls hl => ?_)
    refine nv_iinc (k := 1) (lv' := [(2, .int (nI (i4 + 1))), (1, .int (s4 + (strikes i4))), (0, .ref (q 0))]) hx hb i4 dX4_strikesOfAll_19 hl rfl (by decide) rfl (fun ls hl => ?_)
    refine lv_goto (tgt := 4) hx hb dX4_strikesOfAll_22 (by decide) ?_
    exact ih _ _ _ (lv_sub hl [0, 1, 2] rfl) hP hD hS
  · intro ls H locs hl hP hD hS
    refine lv_iload_n hx hb dX4_strikesOfAll_4 rfl (lv_at hl 0 rfl) ?_
    refine lv_bipush (v := 8) hx hb dX4_strikesOfAll_5 (by decide) ?_
    refine nv_ge hx hb 8 8 25 (by omega) (by omega) dX4_strikesOfAll_7 (by decide) (fun _ => ?_) (fun hc => absurd hc (by omega))
    refine lv_iload_n hx hb dX4_strikesOfAll_25 rfl (lv_at hl 1 rfl) ?_
    rw [← hQQ]; exact W.iret hx hb hr (ct_end (F := (f_X4_strikesOfAll strikes)) (u := (it (L_X4_strikesOfAll_4 strikes) 0 8 (0 : Int32))) (rf := (fun u => some (.int u))) (wf := (fun _ => [stC q cI beams speeds phases springs strikes ways kickSums nearTicks gives settings ticks kicks strikeTicks pulls leaders].flatten)) rfl rfl hP hD hS) hS.2.2 dX4_strikesOfAll_26
set_option maxRecDepth 100000 in
set_option maxHeartbeats 4000000 in
theorem k_X4_maskOfBeam (l : Launch) (G : va_G) (cI cS cL : ClassId) (q : Nat → Nat) (beams : Nat → Int32) (speeds : Nat → Int32) (phases : Nat → Int32) (springs : Nat → Int32) (strikes : Nat → Int32) (ways : Nat → Int32) (kickSums : Nat → Int32) (nearTicks : Nat → Int32) (gives : Nat → Int32) (settings : Nat → Int32) (ticks : Int32) (kicks : Int32) (strikeTicks : Int32) (pulls : Nat → Int32) (leaders : Nat → Int32) (b : Int32) : Ct l G (tyl cI cS cL) yX4_maskOfBeam cX4_maskOfBeam 4 (some (Jvm.ClassFile.FieldType.int)) 1 22 0 0 [.ref (q 0), .int b] [stC q cI beams speeds phases springs strikes ways kickSums nearTicks gives settings ticks kicks strikeTicks pulls leaders].flatten (f_X4_maskOfBeam beams b) (fun u => some (.int u)) (fun _ => [stC q cI beams speeds phases springs strikes ways kickSums nearTicks gives settings ticks kicks strikeTicks pulls leaders].flatten) := by
  refine Ct.of (by decide +kernel) (Nat.le_of_ble_eq_true rfl) ?_
  intro p e s m args below meth c A ls hx hb hr hml hw hown hlocks hin hK hN hP hD hS hA hl
  have hown : s.vm.findClass RX4 = some m.cls := hown
  have X : Cx p s m args c cX4_maskOfBeam 4 RX4 G (tyl cI cS cL) := ⟨hx, hb, hml, hown, hw, hK, hN⟩
  have hP : va_P G classes [stC q cI beams speeds phases springs strikes ways kickSums nearTicks gives settings ticks kicks strikeTicks pulls leaders].flatten s.heap := hP
  have hl : lv_has ls 4 [(0, .ref (q 0)), (1, .int b)] := hl
  generalize hQQ : MQ below _ args s 0 0 A = QQ
  refine lv_iconst (v := 0) hx hb dX4_maskOfBeam_0 (by decide) ?_
  refine lv_istore_n (lv' := [(2, .int (0 : Int32)), (0, .ref (q 0)), (1, .int b)]) hx hb dX4_maskOfBeam_1 rfl hl (by decide) rfl (fun ls hl => ?_)
  refine lv_iconst (v := 0) hx hb dX4_maskOfBeam_2 (by decide) ?_
  refine lv_istore_n (lv' := [(3, .int (0 : Int32)), (2, .int (0 : Int32)), (0, .ref (q 0)), (1, .int b)]) hx hb dX4_maskOfBeam_3 rfl hl (by decide) rfl (fun ls hl => ?_)
  refine it_loop (f := (L_X4_maskOfBeam_4 beams b)) 8 (fun (i4 : Nat) (s4 : Int32) => ∀ (ls : Array Slot) (H : Heap) (locs : List Loc), lv_has ls 4 [(3, .int (nI i4)), (2, .int s4), (0, .ref (q 0)), (1, .int b)] → va_P G classes [stC q cI beams speeds phases springs strikes ways kickSums nearTicks gives settings ticks kicks strikeTicks pulls leaders].flatten H → va_D A [stC q cI beams speeds phases springs strikes ways kickSums nearTicks gives settings ticks kicks strikeTicks pulls leaders].flatten → va_S A s.heap H locs → W p l e ({ frames := 1, cells := 0, slots := 0, locals := 22 } : Room) s m args below meth c H locs 0 0 QQ (F0 m 4 ls [])) (fun i4 s4 hi4 ih => ?_) 8 0 (0 : Int32) (by omega) ?_ ls _ _ (lv_sub hl [0, 1, 2, 3] rfl) hP hD hS
  · intro ls H locs hl hP hD hS
    refine lv_iload_n hx hb dX4_maskOfBeam_4 rfl (lv_at hl 0 rfl) ?_
    refine lv_bipush (v := 8) hx hb dX4_maskOfBeam_5 (by decide) ?_
    refine nv_ge hx hb i4 8 31 (by omega) (by omega) dX4_maskOfBeam_7 (by decide) (fun hc => absurd hc (by omega)) (fun _ => ?_)
    refine lv_aload_n hx hb dX4_maskOfBeam_10 rfl (lv_at hl 2 rfl) ?_
    refine lv_iload_n hx hb dX4_maskOfBeam_11 rfl (lv_at hl 0 rfl) ?_
    refine lv_iload_n hx hb dX4_maskOfBeam_12 rfl (lv_at hl 3 rfl) ?_
    refine ct_callV (As := [.int (nI i4), .int b]) (rest := []) X hP hD hS hA (k_X4_hangsOn l G cI cS cL q beams speeds phases springs strikes ways kickSums nearTicks gives settings ticks kicks strikeTicks pulls leaders i4 b (by omega)) cp_X4_hangsOn aw_380 ⟨Nat.le_of_ble_eq_true rfl, Nat.le_of_ble_eq_true rfl⟩ [0] (cs := [stC q cI beams speeds phases springs strikes ways kickSums nearTicks gives settings ticks kicks strikeTicks pulls leaders]) rfl (by decide) (cs' := [stC q cI beams speeds phases springs strikes ways kickSums nearTicks gives settings ticks kicks strikeTicks pulls leaders]) rfl rfl 2 rfl rfl (q0 := 0) rfl rfl hl.1 rfl (Nat.le_of_ble_eq_true rfl) dX4_maskOfBeam_13 ⟨Nat.zero_le _, Nat.zero_le _⟩ rfl (bs' := [stC q cI beams speeds phases springs strikes ways kickSums nearTicks gives settings ticks kicks strikeTicks pulls leaders]) rfl (fun H locs hP hD hS => ?_)
    have hM_7 : ∀ (v_6 : Int32) (ls : Array Slot) (H : Heap) (locs : List Loc), v_6 = (if (f_X4_hangsOn beams i4 b) = true then (s4 ||| ((1 : Int32) <<< ((nI i4) &&& 31))) else s4) → lv_has ls 4 [(2, .int v_6), (3, .int (nI i4)), (0, .ref (q 0)), (1, .int b)] → va_P G classes [stC q cI beams speeds phases springs strikes ways kickSums nearTicks gives settings ticks kicks strikeTicks pulls leaders].flatten H → va_D A [stC q cI beams speeds phases springs strikes ways kickSums nearTicks gives settings ticks kicks strikeTicks pulls leaders].flatten → va_S A s.heap H locs → W p l e ({ frames := 1, cells := 0, slots := 0, locals := 22 } : Room) s m args below meth c H locs 0 0 QQ (F0 m 25 ls []) := by
      intro v_6 ls H locs e_v_6 hl hP hD hS
      subst e_v_6
      refine nv_iinc (k := 1) (lv' := [(3, .int (nI (i4 + 1))), (2, .int (if (f_X4_hangsOn beams i4 b) = true then (s4 ||| ((1 : Int32) <<< ((nI i4) &&& 31))) else s4)), (0, .ref (q 0)), (1, .int b)]) hx hb i4 dX4_maskOfBeam_25 hl rfl (by decide) rfl (fun ls hl => ?_)
      refine lv_goto (tgt := 4) hx hb dX4_maskOfBeam_28 (by decide) ?_
      exact ih _ _ _ (lv_sub hl [0, 1, 2, 3] rfl) hP hD hS
    refine bv_ifeq hx hb (f_X4_hangsOn beams i4 b) 25 dX4_maskOfBeam_16 (by decide) (fun c_3 => ?_) (fun c_3 => ?_)
    · exact hM_7 s4 _ _ _ (if_neg c_3).symm (lv_sub hl [1, 0, 2, 3] rfl) hP hD hS
    · refine lv_iload_n hx hb dX4_maskOfBeam_19 rfl (lv_at hl 1 rfl) ?_
      refine lv_iconst (v := 1) hx hb dX4_maskOfBeam_20 (by decide) ?_
      refine lv_iload_n hx hb dX4_maskOfBeam_21 rfl (lv_at hl 0 rfl) ?_
      refine lv_ishl hx hb dX4_maskOfBeam_22 ?_
      refine lv_ior hx hb dX4_maskOfBeam_23 ?_
      refine lv_istore_n (lv' := [(2, .int (s4 ||| ((1 : Int32) <<< ((nI i4) &&& 31)))), (3, .int (nI i4)), (0, .ref (q 0)), (1, .int b)]) hx hb dX4_maskOfBeam_24 rfl hl (by decide) rfl (fun ls hl => ?_)
      exact hM_7 (s4 ||| ((1 : Int32) <<< ((nI i4) &&& 31))) _ _ _ (if_pos c_3).symm (lv_sub hl [0, 1, 2, 3] rfl) hP hD hS
  · intro ls H locs hl hP hD hS
    refine lv_iload_n hx hb dX4_maskOfBeam_4 rfl (lv_at hl 0 rfl) ?_
    refine lv_bipush (v := 8) hx hb dX4_maskOfBeam_5 (by decide) ?_
    refine nv_ge hx hb 8 8 31 (by omega) (by omega) dX4_maskOfBeam_7 (by decide) (fun _ => ?_) (fun hc => absurd hc (by omega))
    refine lv_iload_n hx hb dX4_maskOfBeam_31 rfl (lv_at hl 1 rfl) ?_
    rw [← hQQ]; exact W.iret hx hb hr (ct_end (F := (f_X4_maskOfBeam beams b)) (u := (it (L_X4_maskOfBeam_4 beams b) 0 8 (0 : Int32))) (rf := (fun u => some (.int u))) (wf := (fun _ => [stC q cI beams speeds phases springs strikes ways kickSums nearTicks gives settings ticks kicks strikeTicks pulls leaders].flatten)) rfl rfl hP hD hS) hS.2.2 dX4_maskOfBeam_32
set_option maxRecDepth 100000 in
set_option maxHeartbeats 4000000 in
theorem k_X4_goingMask (l : Launch) (G : va_G) (cI cS cL : ClassId) (q : Nat → Nat) (beams : Nat → Int32) (speeds : Nat → Int32) (phases : Nat → Int32) (springs : Nat → Int32) (strikes : Nat → Int32) (ways : Nat → Int32) (kickSums : Nat → Int32) (nearTicks : Nat → Int32) (gives : Nat → Int32) (settings : Nat → Int32) (ticks : Int32) (kicks : Int32) (strikeTicks : Int32) (pulls : Nat → Int32) (leaders : Nat → Int32) : Ct l G (tyl cI cS cL) yX4_goingMask cX4_goingMask 3 (some (Jvm.ClassFile.FieldType.int)) 1 21 0 0 [.ref (q 0)] [stC q cI beams speeds phases springs strikes ways kickSums nearTicks gives settings ticks kicks strikeTicks pulls leaders].flatten (f_X4_goingMask springs) (fun u => some (.int u)) (fun _ => [stC q cI beams speeds phases springs strikes ways kickSums nearTicks gives settings ticks kicks strikeTicks pulls leaders].flatten) := by
  refine Ct.of (by decide +kernel) (Nat.le_of_ble_eq_true rfl) ?_
  intro p e s m args below meth c A ls hx hb hr hml hw hown hlocks hin hK hN hP hD hS hA hl
  have hown : s.vm.findClass RX4 = some m.cls := hown
  have X : Cx p s m args c cX4_goingMask 3 RX4 G (tyl cI cS cL) := ⟨hx, hb, hml, hown, hw, hK, hN⟩
  have hP : va_P G classes [stC q cI beams speeds phases springs strikes ways kickSums nearTicks gives settings ticks kicks strikeTicks pulls leaders].flatten s.heap := hP
  have hl : lv_has ls 3 [(0, .ref (q 0))] := hl
  generalize hQQ : MQ below _ args s 0 0 A = QQ
  refine lv_iconst (v := 0) hx hb dX4_goingMask_0 (by decide) ?_
  refine lv_istore_n (lv' := [(1, .int (0 : Int32)), (0, .ref (q 0))]) hx hb dX4_goingMask_1 rfl hl (by decide) rfl (fun ls hl => ?_)
  refine lv_iconst (v := 0) hx hb dX4_goingMask_2 (by decide) ?_
  refine lv_istore_n (lv' := [(2, .int (0 : Int32)), (1, .int (0 : Int32)), (0, .ref (q 0))]) hx hb dX4_goingMask_3 rfl hl (by decide) rfl (fun ls hl => ?_)
  refine it_loop (f := (L_X4_goingMask_4 springs)) 8 (fun (i4 : Nat) (s4 : Int32) => ∀ (ls : Array Slot) (H : Heap) (locs : List Loc), lv_has ls 3 [(2, .int (nI i4)), (1, .int s4), (0, .ref (q 0))] → va_P G classes [stC q cI beams speeds phases springs strikes ways kickSums nearTicks gives settings ticks kicks strikeTicks pulls leaders].flatten H → va_D A [stC q cI beams speeds phases springs strikes ways kickSums nearTicks gives settings ticks kicks strikeTicks pulls leaders].flatten → va_S A s.heap H locs → W p l e ({ frames := 1, cells := 0, slots := 0, locals := 21 } : Room) s m args below meth c H locs 0 0 QQ (F0 m 4 ls [])) (fun i4 s4 hi4 ih => ?_) 8 0 (0 : Int32) (by omega) ?_ ls _ _ (lv_sub hl [0, 1, 2] rfl) hP hD hS
  · intro ls H locs hl hP hD hS
    refine lv_iload_n hx hb dX4_goingMask_4 rfl (lv_at hl 0 rfl) ?_
    refine lv_bipush (v := 8) hx hb dX4_goingMask_5 (by decide) ?_
    refine nv_ge hx hb i4 8 30 (by omega) (by omega) dX4_goingMask_7 (by decide) (fun hc => absurd hc (by omega)) (fun _ => ?_)
    refine lv_aload_n hx hb dX4_goingMask_10 rfl (lv_at hl 2 rfl) ?_
    refine lv_iload_n hx hb dX4_goingMask_11 rfl (lv_at hl 0 rfl) ?_
    refine ct_callV (As := [.int (nI i4)]) (rest := []) X hP hD hS hA (k_X4_goes l G cI cS cL q beams speeds phases springs strikes ways kickSums nearTicks gives settings ticks kicks strikeTicks pulls leaders i4 (by omega)) cp_X4_goes aw_292 ⟨Nat.le_of_ble_eq_true rfl, Nat.le_of_ble_eq_true rfl⟩ [0] (cs := [stC q cI beams speeds phases springs strikes ways kickSums nearTicks gives settings ticks kicks strikeTicks pulls leaders]) rfl (by decide) (cs' := [stC q cI beams speeds phases springs strikes ways kickSums nearTicks gives settings ticks kicks strikeTicks pulls leaders]) rfl rfl 2 rfl rfl (q0 := 0) rfl rfl hl.1 rfl (Nat.le_of_ble_eq_true rfl) dX4_goingMask_12 ⟨Nat.zero_le _, Nat.zero_le _⟩ rfl (bs' := [stC q cI beams speeds phases springs strikes ways kickSums nearTicks gives settings ticks kicks strikeTicks pulls leaders]) rfl (fun H locs hP hD hS => ?_)
    have hM_7 : ∀ (v_6 : Int32) (ls : Array Slot) (H : Heap) (locs : List Loc), v_6 = (if (f_X4_goes springs i4) = true then (s4 ||| ((1 : Int32) <<< ((nI i4) &&& 31))) else s4) → lv_has ls 3 [(1, .int v_6), (2, .int (nI i4)), (0, .ref (q 0))] → va_P G classes [stC q cI beams speeds phases springs strikes ways kickSums nearTicks gives settings ticks kicks strikeTicks pulls leaders].flatten H → va_D A [stC q cI beams speeds phases springs strikes ways kickSums nearTicks gives settings ticks kicks strikeTicks pulls leaders].flatten → va_S A s.heap H locs → W p l e ({ frames := 1, cells := 0, slots := 0, locals := 21 } : Room) s m args below meth c H locs 0 0 QQ (F0 m 24 ls []) := by
      intro v_6 ls H locs e_v_6 hl hP hD hS
      subst e_v_6
      refine nv_iinc (k := 1) (lv' := [(2, .int (nI (i4 + 1))), (1, .int (if (f_X4_goes springs i4) = true then (s4 ||| ((1 : Int32) <<< ((nI i4) &&& 31))) else s4)), (0, .ref (q 0))]) hx hb i4 dX4_goingMask_24 hl rfl (by decide) rfl (fun ls hl => ?_)
      refine lv_goto (tgt := 4) hx hb dX4_goingMask_27 (by decide) ?_
      exact ih _ _ _ (lv_sub hl [0, 1, 2] rfl) hP hD hS
    refine bv_ifeq hx hb (f_X4_goes springs i4) 24 dX4_goingMask_15 (by decide) (fun c_3 => ?_) (fun c_3 => ?_)
    · exact hM_7 s4 _ _ _ (if_neg c_3).symm (lv_sub hl [1, 0, 2] rfl) hP hD hS
    · refine lv_iload_n hx hb dX4_goingMask_18 rfl (lv_at hl 1 rfl) ?_
      refine lv_iconst (v := 1) hx hb dX4_goingMask_19 (by decide) ?_
      refine lv_iload_n hx hb dX4_goingMask_20 rfl (lv_at hl 0 rfl) ?_
      refine lv_ishl hx hb dX4_goingMask_21 ?_
      refine lv_ior hx hb dX4_goingMask_22 ?_
      refine lv_istore_n (lv' := [(1, .int (s4 ||| ((1 : Int32) <<< ((nI i4) &&& 31)))), (2, .int (nI i4)), (0, .ref (q 0))]) hx hb dX4_goingMask_23 rfl hl (by decide) rfl (fun ls hl => ?_)
      exact hM_7 (s4 ||| ((1 : Int32) <<< ((nI i4) &&& 31))) _ _ _ (if_pos c_3).symm (lv_sub hl [0, 1, 2] rfl) hP hD hS
  · intro ls H locs hl hP hD hS
    refine lv_iload_n hx hb dX4_goingMask_4 rfl (lv_at hl 0 rfl) ?_
    refine lv_bipush (v := 8) hx hb dX4_goingMask_5 (by decide) ?_
    refine nv_ge hx hb 8 8 30 (by omega) (by omega) dX4_goingMask_7 (by decide) (fun _ => ?_) (fun hc => absurd hc (by omega))
    refine lv_iload_n hx hb dX4_goingMask_30 rfl (lv_at hl 1 rfl) ?_
    rw [← hQQ]; exact W.iret hx hb hr (ct_end (F := (f_X4_goingMask springs)) (u := (it (L_X4_goingMask_4 springs) 0 8 (0 : Int32))) (rf := (fun u => some (.int u))) (wf := (fun _ => [stC q cI beams speeds phases springs strikes ways kickSums nearTicks gives settings ticks kicks strikeTicks pulls leaders].flatten)) rfl rfl hP hD hS) hS.2.2 dX4_goingMask_31
set_option maxRecDepth 100000 in
set_option maxHeartbeats 4000000 in
theorem k_X4_widestGap (l : Launch) (G : va_G) (cI cS cL : ClassId) (q : Nat → Nat) (beams : Nat → Int32) (speeds : Nat → Int32) (phases : Nat → Int32) (springs : Nat → Int32) (strikes : Nat → Int32) (ways : Nat → Int32) (kickSums : Nat → Int32) (nearTicks : Nat → Int32) (gives : Nat → Int32) (settings : Nat → Int32) (ticks : Int32) (kicks : Int32) (strikeTicks : Int32) (pulls : Nat → Int32) (leaders : Nat → Int32) (b : Int32) : Ct l G (tyl cI cS cL) yX4_widestGap cX4_widestGap 6 (some (Jvm.ClassFile.FieldType.int)) 2 45 0 0 [.ref (q 0), .int b] [stC q cI beams speeds phases springs strikes ways kickSums nearTicks gives settings ticks kicks strikeTicks pulls leaders].flatten (f_X4_widestGap beams phases springs b) (fun u => some (.int u)) (fun _ => [stC q cI beams speeds phases springs strikes ways kickSums nearTicks gives settings ticks kicks strikeTicks pulls leaders].flatten) := by
  refine Ct.of (by decide +kernel) (Nat.le_of_ble_eq_true rfl) ?_
  intro p e s m args below meth c A ls hx hb hr hml hw hown hlocks hin hK hN hP hD hS hA hl
  have hown : s.vm.findClass RX4 = some m.cls := hown
  have X : Cx p s m args c cX4_widestGap 6 RX4 G (tyl cI cS cL) := ⟨hx, hb, hml, hown, hw, hK, hN⟩
  have hP : va_P G classes [stC q cI beams speeds phases springs strikes ways kickSums nearTicks gives settings ticks kicks strikeTicks pulls leaders].flatten s.heap := hP
  have hl : lv_has ls 6 [(0, .ref (q 0)), (1, .int b)] := hl
  generalize hQQ : MQ below _ args s 0 0 A = QQ
  refine lv_aload_n hx hb dX4_widestGap_0 rfl (lv_at hl 0 rfl) ?_
  refine lv_iload_n hx hb dX4_widestGap_1 rfl (lv_at hl 1 rfl) ?_
  refine ct_callV (As := [.int b]) (rest := []) X hP hD hS hA (k_X4_maskOfBeam l G cI cS cL q beams speeds phases springs strikes ways kickSums nearTicks gives settings ticks kicks strikeTicks pulls leaders b) cp_X4_maskOfBeam aw_442 ⟨Nat.le_of_ble_eq_true rfl, Nat.le_of_ble_eq_true rfl⟩ [0] (cs := [stC q cI beams speeds phases springs strikes ways kickSums nearTicks gives settings ticks kicks strikeTicks pulls leaders]) rfl (by decide) (cs' := [stC q cI beams speeds phases springs strikes ways kickSums nearTicks gives settings ticks kicks strikeTicks pulls leaders]) rfl rfl 2 rfl rfl (q0 := 0) rfl rfl hl.1 rfl (Nat.le_of_ble_eq_true rfl) dX4_widestGap_2 ⟨Nat.zero_le _, Nat.zero_le _⟩ rfl (bs' := [stC q cI beams speeds phases springs strikes ways kickSums nearTicks gives settings ticks kicks strikeTicks pulls leaders]) rfl (fun H locs hP hD hS => ?_)
  refine lv_aload_n hx hb dX4_widestGap_5 rfl (lv_at hl 0 rfl) ?_
  refine ct_callV (As := []) (rest := [.int (f_X4_maskOfBeam beams b)]) X hP hD hS hA (k_X4_goingMask l G cI cS cL q beams speeds phases springs strikes ways kickSums nearTicks gives settings ticks kicks strikeTicks pulls leaders) cp_X4_goingMask aw_288 ⟨Nat.le_of_ble_eq_true rfl, Nat.le_of_ble_eq_true rfl⟩ [0] (cs := [stC q cI beams speeds phases springs strikes ways kickSums nearTicks gives settings ticks kicks strikeTicks pulls leaders]) rfl (by decide) (cs' := [stC q cI beams speeds phases springs strikes ways kickSums nearTicks gives settings ticks kicks strikeTicks pulls leaders]) rfl rfl 2 rfl rfl (q0 := 0) rfl rfl hl.1 rfl (Nat.le_of_ble_eq_true rfl) dX4_widestGap_6 ⟨Nat.zero_le _, Nat.zero_le _⟩ rfl (bs' := [stC q cI beams speeds phases springs strikes ways kickSums nearTicks gives settings ticks kicks strikeTicks pulls leaders]) rfl (fun H locs hP hD hS => ?_)
  refine lv_iand hx hb dX4_widestGap_9 ?_
  refine lv_istore_n (lv' := [(2, .int ((f_X4_maskOfBeam beams b) &&& (f_X4_goingMask springs))), (0, .ref (q 0)), (1, .int b)]) hx hb dX4_widestGap_10 rfl hl (by decide) rfl (fun ls hl => ?_)
  refine lv_iconst (v := 0) hx hb dX4_widestGap_11 (by decide) ?_
  refine lv_istore_n (lv' := [(3, .int (0 : Int32)), (2, .int ((f_X4_maskOfBeam beams b) &&& (f_X4_goingMask springs))), (0, .ref (q 0)), (1, .int b)]) hx hb dX4_widestGap_12 rfl hl (by decide) rfl (fun ls hl => ?_)
  refine lv_iconst (v := 0) hx hb dX4_widestGap_13 (by decide) ?_
  refine lv_istore (lv' := [(4, .int (0 : Int32)), (3, .int (0 : Int32)), (2, .int ((f_X4_maskOfBeam beams b) &&& (f_X4_goingMask springs))), (0, .ref (q 0)), (1, .int b)]) hx hb dX4_widestGap_14 hl (by decide) rfl (fun ls hl => ?_)
  refine it_loop (f := (L_X4_widestGap_16 beams phases springs b)) 8 (fun (i16 : Nat) (s16 : Int32) => ∀ (ls : Array Slot) (H : Heap) (locs : List Loc), lv_has ls 6 [(4, .int (nI i16)), (3, .int s16), (2, .int ((f_X4_maskOfBeam beams b) &&& (f_X4_goingMask springs))), (0, .ref (q 0))] → va_P G classes [stC q cI beams speeds phases springs strikes ways kickSums nearTicks gives settings ticks kicks strikeTicks pulls leaders].flatten H → va_D A [stC q cI beams speeds phases springs strikes ways kickSums nearTicks gives settings ticks kicks strikeTicks pulls leaders].flatten → va_S A s.heap H locs → W p l e ({ frames := 2, cells := 0, slots := 0, locals := 45 } : Room) s m args below meth c H locs 0 0 QQ (F0 m 16 ls [])) (fun i16 s16 hi16 ih => ?_) 8 0 (0 : Int32) (by omega) ?_ ls _ _ (lv_sub hl [0, 1, 2, 3] rfl) hP hD hS
  · intro ls H locs hl hP hD hS
    refine lv_iload hx hb dX4_widestGap_16 (lv_at hl 0 rfl) ?_
    refine lv_bipush (v := 8) hx hb dX4_widestGap_18 (by decide) ?_
    refine nv_ge hx hb i16 8 82 (by omega) (by omega) dX4_widestGap_20 (by decide) (fun hc => absurd hc (by omega)) (fun _ => ?_)
    refine lv_iload hx hb dX4_widestGap_23 (lv_at hl 0 rfl) ?_
    refine lv_iconst (v := 1) hx hb dX4_widestGap_25 (by decide) ?_
    refine nv_iadd hx hb i16 1 dX4_widestGap_26 ?_
    refine lv_istore (lv' := [(5, .int (nI (i16 + 1))), (4, .int (nI i16)), (3, .int s16), (2, .int ((f_X4_maskOfBeam beams b) &&& (f_X4_goingMask springs))), (0, .ref (q 0))]) hx hb dX4_widestGap_27 hl (by decide) rfl (fun ls hl => ?_)
    refine it_loop (f := (L_X4_widestGap_29 beams phases springs b i16)) 8 (fun (i29 : Nat) (s29 : Int32) => ∀ (ls : Array Slot) (H : Heap) (locs : List Loc), lv_has ls 6 [(5, .int (nI i29)), (4, .int (nI i16)), (3, .int s29), (2, .int ((f_X4_maskOfBeam beams b) &&& (f_X4_goingMask springs))), (0, .ref (q 0))] → va_P G classes [stC q cI beams speeds phases springs strikes ways kickSums nearTicks gives settings ticks kicks strikeTicks pulls leaders].flatten H → va_D A [stC q cI beams speeds phases springs strikes ways kickSums nearTicks gives settings ticks kicks strikeTicks pulls leaders].flatten → va_S A s.heap H locs → W p l e ({ frames := 2, cells := 0, slots := 0, locals := 45 } : Room) s m args below meth c H locs 0 0 QQ (F0 m 29 ls [])) (fun i29 s29 hi29 ih => ?_) (8 - (i16 + 1)) (i16 + 1) s16 (by omega) ?_ ls _ _ (lv_sub hl [0, 1, 2, 3, 4] rfl) hP hD hS
    · intro ls H locs hl hP hD hS
      refine lv_iload hx hb dX4_widestGap_29 (lv_at hl 0 rfl) ?_
      refine lv_bipush (v := 8) hx hb dX4_widestGap_31 (by decide) ?_
      refine nv_ge hx hb i29 8 76 (by omega) (by omega) dX4_widestGap_33 (by decide) (fun hc => absurd hc (by omega)) (fun _ => ?_)
      refine lv_iload_n hx hb dX4_widestGap_36 rfl (lv_at hl 3 rfl) ?_
      refine lv_iload hx hb dX4_widestGap_37 (lv_at hl 1 rfl) ?_
      refine ct_callS (As := [.int ((f_X4_maskOfBeam beams b) &&& (f_X4_goingMask springs)), .int (nI i16)]) (rest := []) X hP hD hS hA (k_X4_isIn l G cI cS cL  ((f_X4_maskOfBeam beams b) &&& (f_X4_goingMask springs)) i16) cq_X4_isIn aw_322 ⟨Nat.le_of_ble_eq_true rfl, Nat.le_of_ble_eq_true rfl⟩ ([] : List Nat) (cs := []) rfl (by decide) (cs' := []) rfl rfl rfl hl.1 rfl (Nat.le_of_ble_eq_true rfl) dX4_widestGap_39 ⟨Nat.zero_le _, Nat.zero_le _⟩ rfl (bs' := [stC q cI beams speeds phases springs strikes ways kickSums nearTicks gives settings ticks kicks strikeTicks pulls leaders]) rfl (fun H locs hP hD hS => ?_)
      have hM_14 : ∀ (v_13 : Int32) (ls : Array Slot) (H : Heap) (locs : List Loc), v_13 = (if (f_X4_isIn ((f_X4_maskOfBeam beams b) &&& (f_X4_goingMask springs)) i16) = true then (if (f_X4_isIn ((f_X4_maskOfBeam beams b) &&& (f_X4_goingMask springs)) i29) = true then (if s29 < (if 0 ≤ (f_X4_gapFrom phases i16 i29) then (f_X4_gapFrom phases i16 i29) else 0 - (f_X4_gapFrom phases i16 i29)) then (if 0 ≤ (f_X4_gapFrom phases i16 i29) then (f_X4_gapFrom phases i16 i29) else 0 - (f_X4_gapFrom phases i16 i29)) else s29) else s29) else s29) → lv_has ls 6 [(3, .int v_13), (5, .int (nI i29)), (4, .int (nI i16)), (2, .int ((f_X4_maskOfBeam beams b) &&& (f_X4_goingMask springs))), (0, .ref (q 0))] → va_P G classes [stC q cI beams speeds phases springs strikes ways kickSums nearTicks gives settings ticks kicks strikeTicks pulls leaders].flatten H → va_D A [stC q cI beams speeds phases springs strikes ways kickSums nearTicks gives settings ticks kicks strikeTicks pulls leaders].flatten → va_S A s.heap H locs → W p l e ({ frames := 2, cells := 0, slots := 0, locals := 45 } : Room) s m args below meth c H locs 0 0 QQ (F0 m 70 ls []) := by
        intro v_13 ls H locs e_v_13 hl hP hD hS
        subst e_v_13
        refine nv_iinc (k := 1) (lv' := [(5, .int (nI (i29 + 1))), (3, .int (if (f_X4_isIn ((f_X4_maskOfBeam beams b) &&& (f_X4_goingMask springs)) i16) = true then (if (f_X4_isIn ((f_X4_maskOfBeam beams b) &&& (f_X4_goingMask springs)) i29) = true then (if s29 < (if 0 ≤ (f_X4_gapFrom phases i16 i29) then (f_X4_gapFrom phases i16 i29) else 0 - (f_X4_gapFrom phases i16 i29)) then (if 0 ≤ (f_X4_gapFrom phases i16 i29) then (f_X4_gapFrom phases i16 i29) else 0 - (f_X4_gapFrom phases i16 i29)) else s29) else s29) else s29)), (4, .int (nI i16)), (2, .int ((f_X4_maskOfBeam beams b) &&& (f_X4_goingMask springs))), (0, .ref (q 0))]) hx hb i29 dX4_widestGap_70 hl rfl (by decide) rfl (fun ls hl => ?_)
        refine lv_goto (tgt := 29) hx hb dX4_widestGap_73 (by decide) ?_
        exact ih _ _ _ (lv_sub hl [0, 2, 1, 3, 4] rfl) hP hD hS
      refine bv_ifeq hx hb (f_X4_isIn ((f_X4_maskOfBeam beams b) &&& (f_X4_goingMask springs)) i16) 70 dX4_widestGap_42 (by decide) (fun c_5 => ?_) (fun c_5 => ?_)
      · exact hM_14 s29 _ _ _ (if_neg c_5).symm (lv_sub hl [2, 0, 1, 3, 4] rfl) hP hD hS
      · refine lv_iload_n hx hb dX4_widestGap_45 rfl (lv_at hl 3 rfl) ?_
        refine lv_iload hx hb dX4_widestGap_46 (lv_at hl 0 rfl) ?_
        refine ct_callS (As := [.int ((f_X4_maskOfBeam beams b) &&& (f_X4_goingMask springs)), .int (nI i29)]) (rest := []) X hP hD hS hA (k_X4_isIn l G cI cS cL  ((f_X4_maskOfBeam beams b) &&& (f_X4_goingMask springs)) i29) cq_X4_isIn aw_322 ⟨Nat.le_of_ble_eq_true rfl, Nat.le_of_ble_eq_true rfl⟩ ([] : List Nat) (cs := []) rfl (by decide) (cs' := []) rfl rfl rfl hl.1 rfl (Nat.le_of_ble_eq_true rfl) dX4_widestGap_48 ⟨Nat.zero_le _, Nat.zero_le _⟩ rfl (bs' := [stC q cI beams speeds phases springs strikes ways kickSums nearTicks gives settings ticks kicks strikeTicks pulls leaders]) rfl (fun H locs hP hD hS => ?_)
        have hM_11 : ∀ (v_10 : Int32) (ls : Array Slot) (H : Heap) (locs : List Loc), v_10 = (if (f_X4_isIn ((f_X4_maskOfBeam beams b) &&& (f_X4_goingMask springs)) i29) = true then (if s29 < (if 0 ≤ (f_X4_gapFrom phases i16 i29) then (f_X4_gapFrom phases i16 i29) else 0 - (f_X4_gapFrom phases i16 i29)) then (if 0 ≤ (f_X4_gapFrom phases i16 i29) then (f_X4_gapFrom phases i16 i29) else 0 - (f_X4_gapFrom phases i16 i29)) else s29) else s29) → lv_has ls 6 [(3, .int v_10), (5, .int (nI i29)), (4, .int (nI i16)), (2, .int ((f_X4_maskOfBeam beams b) &&& (f_X4_goingMask springs))), (0, .ref (q 0))] → va_P G classes [stC q cI beams speeds phases springs strikes ways kickSums nearTicks gives settings ticks kicks strikeTicks pulls leaders].flatten H → va_D A [stC q cI beams speeds phases springs strikes ways kickSums nearTicks gives settings ticks kicks strikeTicks pulls leaders].flatten → va_S A s.heap H locs → W p l e ({ frames := 2, cells := 0, slots := 0, locals := 45 } : Room) s m args below meth c H locs 0 0 QQ (F0 m 70 ls []) := by
          intro v_10 ls H locs e_v_10 hl hP hD hS
          subst e_v_10
          exact hM_14 (if (f_X4_isIn ((f_X4_maskOfBeam beams b) &&& (f_X4_goingMask springs)) i29) = true then (if s29 < (if 0 ≤ (f_X4_gapFrom phases i16 i29) then (f_X4_gapFrom phases i16 i29) else 0 - (f_X4_gapFrom phases i16 i29)) then (if 0 ≤ (f_X4_gapFrom phases i16 i29) then (f_X4_gapFrom phases i16 i29) else 0 - (f_X4_gapFrom phases i16 i29)) else s29) else s29) _ _ _ (if_pos c_5).symm (lv_sub hl [0, 1, 2, 3, 4] rfl) hP hD hS
        refine bv_ifeq hx hb (f_X4_isIn ((f_X4_maskOfBeam beams b) &&& (f_X4_goingMask springs)) i29) 70 dX4_widestGap_51 (by decide) (fun c_7 => ?_) (fun c_7 => ?_)
        · exact hM_11 s29 _ _ _ (if_neg c_7).symm (lv_sub hl [2, 0, 1, 3, 4] rfl) hP hD hS
        · refine lv_iload_n hx hb dX4_widestGap_54 rfl (lv_at hl 2 rfl) ?_
          refine lv_aload_n hx hb dX4_widestGap_55 rfl (lv_at hl 4 rfl) ?_
          refine lv_iload hx hb dX4_widestGap_56 (lv_at hl 1 rfl) ?_
          refine lv_iload hx hb dX4_widestGap_58 (lv_at hl 0 rfl) ?_
          refine ct_callV (As := [.int (nI i16), .int (nI i29)]) (rest := [.int s29]) X hP hD hS hA (k_X4_gapFrom l G cI cS cL q beams speeds phases springs strikes ways kickSums nearTicks gives settings ticks kicks strikeTicks pulls leaders i16 i29 (by omega) (by omega)) cp_X4_gapFrom aw_384 ⟨Nat.le_of_ble_eq_true rfl, Nat.le_of_ble_eq_true rfl⟩ [0] (cs := [stC q cI beams speeds phases springs strikes ways kickSums nearTicks gives settings ticks kicks strikeTicks pulls leaders]) rfl (by decide) (cs' := [stC q cI beams speeds phases springs strikes ways kickSums nearTicks gives settings ticks kicks strikeTicks pulls leaders]) rfl rfl 2 rfl rfl (q0 := 0) rfl rfl hl.1 rfl (Nat.le_of_ble_eq_true rfl) dX4_widestGap_60 ⟨Nat.zero_le _, Nat.zero_le _⟩ rfl (bs' := [stC q cI beams speeds phases springs strikes ways kickSums nearTicks gives settings ticks kicks strikeTicks pulls leaders]) rfl (fun H locs hP hD hS => ?_)
          refine va_mabs hx hb (hml.trans hl.1.symm) hown (hw _ aw_424) (hw _ aw_425) (hw _ aw_43) (hw _ aw_426) (Nat.le_of_ble_eq_true rfl) (Nat.le_of_ble_eq_true rfl) (Nat.zero_le _) (Nat.zero_le _) dX4_widestGap_63 ?_
          refine va_mmax hx hb (hml.trans hl.1.symm) hown (hw _ aw_337) (hw _ aw_338) (hw _ aw_43) (hw _ aw_339) (Nat.le_of_ble_eq_true rfl) (Nat.le_of_ble_eq_true rfl) (Nat.zero_le _) (Nat.zero_le _) dX4_widestGap_66 ?_
          refine lv_istore_n (lv' := [(3, .int (if s29 < (if 0 ≤ (f_X4_gapFrom phases i16 i29) then (f_X4_gapFrom phases i16 i29) else 0 - (f_X4_gapFrom phases i16 i29)) then (if 0 ≤ (f_X4_gapFrom phases i16 i29) then (f_X4_gapFrom phases i16 i29) else 0 - (f_X4_gapFrom phases i16 i29)) else s29)), (5, .int (nI i29)), (4, .int (nI i16)), (2, .int ((f_X4_maskOfBeam beams b) &&& (f_X4_goingMask springs))), (0, .ref (q 0))]) hx hb dX4_widestGap_69 rfl hl (by decide) rfl (fun ls hl => ?_)
          exact hM_11 (if s29 < (if 0 ≤ (f_X4_gapFrom phases i16 i29) then (f_X4_gapFrom phases i16 i29) else 0 - (f_X4_gapFrom phases i16 i29)) then (if 0 ≤ (f_X4_gapFrom phases i16 i29) then (f_X4_gapFrom phases i16 i29) else 0 - (f_X4_gapFrom phases i16 i29)) else s29) _ _ _ (if_pos c_7).symm (lv_sub hl [0, 1, 2, 3, 4] rfl) hP hD hS
    · intro ls H locs hl hP hD hS
      refine lv_iload hx hb dX4_widestGap_29 (lv_at hl 0 rfl) ?_
      refine lv_bipush (v := 8) hx hb dX4_widestGap_31 (by decide) ?_
      refine nv_ge hx hb 8 8 76 (by omega) (by omega) dX4_widestGap_33 (by decide) (fun _ => ?_) (fun hc => absurd hc (by omega))
      refine nv_iinc (k := 1) (lv' := [(4, .int (nI (i16 + 1))), (5, .int (nI 8)), (3, .int (it (L_X4_widestGap_29 beams phases springs b i16) (i16 + 1) (8 - (i16 + 1)) s16)), (2, .int ((f_X4_maskOfBeam beams b) &&& (f_X4_goingMask springs))), (0, .ref (q 0))]) hx hb i16 dX4_widestGap_76 hl rfl (by decide) rfl (fun ls hl => ?_)
      refine lv_goto (tgt := 16) hx hb dX4_widestGap_79 (by decide) ?_
      exact ih _ _ _ (lv_sub hl [0, 2, 3, 4] rfl) hP hD hS
  · intro ls H locs hl hP hD hS
    refine lv_iload hx hb dX4_widestGap_16 (lv_at hl 0 rfl) ?_
    refine lv_bipush (v := 8) hx hb dX4_widestGap_18 (by decide) ?_
    refine nv_ge hx hb 8 8 82 (by omega) (by omega) dX4_widestGap_20 (by decide) (fun _ => ?_) (fun hc => absurd hc (by omega))
    refine lv_iload_n hx hb dX4_widestGap_82 rfl (lv_at hl 1 rfl) ?_
    rw [← hQQ]; exact W.iret hx hb hr (ct_end (F := (f_X4_widestGap beams phases springs b)) (u := (it (L_X4_widestGap_16 beams phases springs b) 0 8 (0 : Int32))) (rf := (fun u => some (.int u))) (wf := (fun _ => [stC q cI beams speeds phases springs strikes ways kickSums nearTicks gives settings ticks kicks strikeTicks pulls leaders].flatten)) rfl rfl hP hD hS) hS.2.2 dX4_widestGap_83
set_option maxRecDepth 100000 in
set_option maxHeartbeats 4000000 in
theorem k_X4_strikesBy (l : Launch) (G : va_G) (cI cS cL : ClassId) (q : Nat → Nat) (beams : Nat → Int32) (speeds : Nat → Int32) (phases : Nat → Int32) (springs : Nat → Int32) (strikes : Nat → Int32) (ways : Nat → Int32) (kickSums : Nat → Int32) (nearTicks : Nat → Int32) (gives : Nat → Int32) (settings : Nat → Int32) (ticks : Int32) (kicks : Int32) (strikeTicks : Int32) (pulls : Nat → Int32) (leaders : Nat → Int32) (k : Nat) (way : Int32) (hk : k < 8) : Ct l G (tyl cI cS cL) yX4_strikesBy cX4_strikesBy 3 (some (Jvm.ClassFile.FieldType.boolean)) 0 0 0 0 [.ref (q 0), .int (nI k), .int way] [stC q cI beams speeds phases springs strikes ways kickSums nearTicks gives settings ticks kicks strikeTicks pulls leaders].flatten (f_X4_strikesBy phases springs strikes ways k way) (fun u => some (.int (bI u.1))) (fun u => [stC q cI beams speeds u.2.1 u.2.2.1 u.2.2.2.1 u.2.2.2.2 kickSums nearTicks gives settings ticks kicks strikeTicks pulls leaders].flatten) := by
  refine Ct.of (by decide +kernel) (Nat.le_of_ble_eq_true rfl) ?_
  intro p e s m args below meth c A ls hx hb hr hml hw hown hlocks hin hK hN hP hD hS hA hl
  have hown : s.vm.findClass RX4 = some m.cls := hown
  have X : Cx p s m args c cX4_strikesBy 3 RX4 G (tyl cI cS cL) := ⟨hx, hb, hml, hown, hw, hK, hN⟩
  have hP : va_P G classes [stC q cI beams speeds phases springs strikes ways kickSums nearTicks gives settings ticks kicks strikeTicks pulls leaders].flatten s.heap := hP
  have hl : lv_has ls 3 [(0, .ref (q 0)), (1, .int (nI k)), (2, .int way)] := hl
  generalize hQQ : MQ below _ args s 0 0 A = QQ
  refine lv_aload_n hx hb dX4_strikesBy_0 rfl (lv_at hl 0 rfl) ?_
  refine va_get (D := G) (ci := 2) (C := RX4) (T := TX4) (N := 15) hx hb hw in_X4 hown hK hP 0 rfl rfl 5 (by decide) (hw _ aw_75) (fun _ h9 => h9) rfl dX4_strikesBy_1 ?_
  refine lv_iload_n hx hb dX4_strikesBy_4 rfl (lv_at hl 1 rfl) ?_
  refine lv_dup2_11 hx hb dX4_strikesBy_5 rfl rfl ?_
  refine nv_iald hx hb hK hP 6 0 rfl rfl k (by omega) (by decide) dX4_strikesBy_6 ?_
  refine lv_iload_n hx hb dX4_strikesBy_7 rfl (lv_at hl 2 rfl) ?_
  refine lv_iadd hx hb dX4_strikesBy_8 ?_
  refine nv_iast hx hb hK hP hD hS 6 0 rfl rfl k (by omega) (by decide) dX4_strikesBy_9 (ws' := [stC q cI beams speeds phases springs strikes (upd ways k ((ways k) + way)) kickSums nearTicks gives settings ticks kicks strikeTicks pulls leaders].flatten) rfl (fun H locs hP hD hS => ?_)
  refine lv_aload_n hx hb dX4_strikesBy_10 rfl (lv_at hl 0 rfl) ?_
  refine va_get (D := G) (ci := 2) (C := RX4) (T := TX4) (N := 15) hx hb hw in_X4 hown hK hP 0 rfl rfl 2 (by decide) (hw _ aw_69) (fun _ h9 => h9) rfl dX4_strikesBy_11 ?_
  refine lv_iload_n hx hb dX4_strikesBy_14 rfl (lv_at hl 1 rfl) ?_
  refine lv_dup2_11 hx hb dX4_strikesBy_15 rfl rfl ?_
  refine nv_iald hx hb hK hP 3 0 rfl rfl k (by omega) (by decide) dX4_strikesBy_16 ?_
  refine lv_iload_n hx hb dX4_strikesBy_17 rfl (lv_at hl 2 rfl) ?_
  refine lv_iadd hx hb dX4_strikesBy_18 ?_
  refine nv_iast hx hb hK hP hD hS 3 0 rfl rfl k (by omega) (by decide) dX4_strikesBy_19 (ws' := [stC q cI beams speeds (upd phases k ((phases k) + way)) springs strikes (upd ways k ((ways k) + way)) kickSums nearTicks gives settings ticks kicks strikeTicks pulls leaders].flatten) rfl (fun H locs hP hD hS => ?_)
  refine lv_aload_n hx hb dX4_strikesBy_20 rfl (lv_at hl 0 rfl) ?_
  refine va_get (D := G) (ci := 2) (C := RX4) (T := TX4) (N := 15) hx hb hw in_X4 hown hK hP 0 rfl rfl 2 (by decide) (hw _ aw_69) (fun _ h9 => h9) rfl dX4_strikesBy_21 ?_
  refine lv_iload_n hx hb dX4_strikesBy_24 rfl (lv_at hl 1 rfl) ?_
  refine nv_iald hx hb hK hP 3 0 rfl rfl k (by omega) (by decide) dX4_strikesBy_25 ?_
  refine lv_sipush (v := 1000) hx hb dX4_strikesBy_26 (by decide) ?_
  refine lv_icmp_ge (tgt := 34) hx hb dX4_strikesBy_29 (by decide) (fun c_1 => ?_) (fun c_1 => ?_)
  · refine lv_aload_n hx hb dX4_strikesBy_34 rfl (lv_at hl 0 rfl) ?_
    refine va_get (D := G) (ci := 2) (C := RX4) (T := TX4) (N := 15) hx hb hw in_X4 hown hK hP 0 rfl rfl 2 (by decide) (hw _ aw_69) (fun _ h9 => h9) rfl dX4_strikesBy_35 ?_
    refine lv_iload_n hx hb dX4_strikesBy_38 rfl (lv_at hl 1 rfl) ?_
    refine lv_dup2_11 hx hb dX4_strikesBy_39 rfl rfl ?_
    refine nv_iald hx hb hK hP 3 0 rfl rfl k (by omega) (by decide) dX4_strikesBy_40 ?_
    refine lv_sipush (v := 1000) hx hb dX4_strikesBy_41 (by decide) ?_
    refine lv_isub hx hb dX4_strikesBy_44 ?_
    refine nv_iast hx hb hK hP hD hS 3 0 rfl rfl k (by omega) (by decide) dX4_strikesBy_45 (ws' := [stC q cI beams speeds (upd (upd phases k ((phases k) + way)) k (((upd phases k ((phases k) + way)) k) - (1000 : Int32))) springs strikes (upd ways k ((ways k) + way)) kickSums nearTicks gives settings ticks kicks strikeTicks pulls leaders].flatten) rfl (fun H locs hP hD hS => ?_)
    refine lv_aload_n hx hb dX4_strikesBy_46 rfl (lv_at hl 0 rfl) ?_
    refine va_get (D := G) (ci := 2) (C := RX4) (T := TX4) (N := 15) hx hb hw in_X4 hown hK hP 0 rfl rfl 3 (by decide) (hw _ aw_71) (fun _ h9 => h9) rfl dX4_strikesBy_47 ?_
    refine lv_iload_n hx hb dX4_strikesBy_50 rfl (lv_at hl 1 rfl) ?_
    refine lv_dup2_11 hx hb dX4_strikesBy_51 rfl rfl ?_
    refine nv_iald hx hb hK hP 4 0 rfl rfl k (by omega) (by decide) dX4_strikesBy_52 ?_
    refine lv_iconst (v := 1) hx hb dX4_strikesBy_53 (by decide) ?_
    refine lv_isub hx hb dX4_strikesBy_54 ?_
    refine nv_iast hx hb hK hP hD hS 4 0 rfl rfl k (by omega) (by decide) dX4_strikesBy_55 (ws' := [stC q cI beams speeds (upd (upd phases k ((phases k) + way)) k (((upd phases k ((phases k) + way)) k) - (1000 : Int32))) (upd springs k ((springs k) - (1 : Int32))) strikes (upd ways k ((ways k) + way)) kickSums nearTicks gives settings ticks kicks strikeTicks pulls leaders].flatten) rfl (fun H locs hP hD hS => ?_)
    refine lv_aload_n hx hb dX4_strikesBy_56 rfl (lv_at hl 0 rfl) ?_
    refine va_get (D := G) (ci := 2) (C := RX4) (T := TX4) (N := 15) hx hb hw in_X4 hown hK hP 0 rfl rfl 4 (by decide) (hw _ aw_73) (fun _ h9 => h9) rfl dX4_strikesBy_57 ?_
    refine lv_iload_n hx hb dX4_strikesBy_60 rfl (lv_at hl 1 rfl) ?_
    refine lv_dup2_11 hx hb dX4_strikesBy_61 rfl rfl ?_
    refine nv_iald hx hb hK hP 5 0 rfl rfl k (by omega) (by decide) dX4_strikesBy_62 ?_
    refine lv_iconst (v := 1) hx hb dX4_strikesBy_63 (by decide) ?_
    refine lv_iadd hx hb dX4_strikesBy_64 ?_
    refine nv_iast hx hb hK hP hD hS 5 0 rfl rfl k (by omega) (by decide) dX4_strikesBy_65 (ws' := [stC q cI beams speeds (upd (upd phases k ((phases k) + way)) k (((upd phases k ((phases k) + way)) k) - (1000 : Int32))) (upd springs k ((springs k) - (1 : Int32))) (upd strikes k ((strikes k) + (1 : Int32))) (upd ways k ((ways k) + way)) kickSums nearTicks gives settings ticks kicks strikeTicks pulls leaders].flatten) rfl (fun H locs hP hD hS => ?_)
    refine lv_iconst (v := 1) hx hb dX4_strikesBy_66 (by decide) ?_
    rw [← hQQ]; exact W.zret (v := bI true) hx hb hr (nar_b _) (ct_end (F := (f_X4_strikesBy phases springs strikes ways k way)) (u := (true, (upd (upd phases k ((phases k) + way)) k (((upd phases k ((phases k) + way)) k) - (1000 : Int32))), (upd springs k ((springs k) - (1 : Int32))), (upd strikes k ((strikes k) + (1 : Int32))), (upd ways k ((ways k) + way)))) (rf := (fun u => some (.int (bI u.1)))) (wf := (fun u => [stC q cI beams speeds u.2.1 u.2.2.1 u.2.2.2.1 u.2.2.2.2 kickSums nearTicks gives settings ticks kicks strikeTicks pulls leaders].flatten)) (by first | (unfold f_X4_strikesBy; rw [if_pos c_1]; first | done | rfl) | (unfold f_X4_strikesBy; simp only [if_pos c_1])) rfl hP hD hS) hS.2.2 dX4_strikesBy_67
  · refine lv_iconst (v := 0) hx hb dX4_strikesBy_32 (by decide) ?_
    rw [← hQQ]; exact W.zret (v := bI false) hx hb hr (nar_b _) (ct_end (F := (f_X4_strikesBy phases springs strikes ways k way)) (u := (false, (upd phases k ((phases k) + way)), springs, strikes, (upd ways k ((ways k) + way)))) (rf := (fun u => some (.int (bI u.1)))) (wf := (fun u => [stC q cI beams speeds u.2.1 u.2.2.1 u.2.2.2.1 u.2.2.2.2 kickSums nearTicks gives settings ticks kicks strikeTicks pulls leaders].flatten)) (by first | (unfold f_X4_strikesBy; rw [if_neg c_1]; first | done | rfl) | (unfold f_X4_strikesBy; simp only [if_neg c_1])) rfl hP hD hS) hS.2.2 dX4_strikesBy_33
set_option maxRecDepth 100000 in
set_option maxHeartbeats 4000000 in
theorem k_X4_goOn (l : Launch) (G : va_G) (cI cS cL : ClassId) (q : Nat → Nat) (beams : Nat → Int32) (speeds : Nat → Int32) (phases : Nat → Int32) (springs : Nat → Int32) (strikes : Nat → Int32) (ways : Nat → Int32) (kickSums : Nat → Int32) (nearTicks : Nat → Int32) (gives : Nat → Int32) (settings : Nat → Int32) (ticks : Int32) (kicks : Int32) (strikeTicks : Int32) (pulls : Nat → Int32) (leaders : Nat → Int32) : Ct l G (tyl cI cS cL) yX4_goOn cX4_goOn 3 (some (Jvm.ClassFile.FieldType.int)) 1 22 0 0 [.ref (q 0)] [stC q cI beams speeds phases springs strikes ways kickSums nearTicks gives settings ticks kicks strikeTicks pulls leaders].flatten (f_X4_goOn speeds phases springs strikes ways pulls) (fun u => some (.int u.1)) (fun u => [stC q cI beams speeds u.2.1 u.2.2.1 u.2.2.2.1 u.2.2.2.2 kickSums nearTicks gives settings ticks kicks strikeTicks pulls leaders].flatten) := by
  refine Ct.of (by decide +kernel) (Nat.le_of_ble_eq_true rfl) ?_
  intro p e s m args below meth c A ls hx hb hr hml hw hown hlocks hin hK hN hP hD hS hA hl
  have hown : s.vm.findClass RX4 = some m.cls := hown
  have X : Cx p s m args c cX4_goOn 3 RX4 G (tyl cI cS cL) := ⟨hx, hb, hml, hown, hw, hK, hN⟩
  have hP : va_P G classes [stC q cI beams speeds phases springs strikes ways kickSums nearTicks gives settings ticks kicks strikeTicks pulls leaders].flatten s.heap := hP
  have hl : lv_has ls 3 [(0, .ref (q 0))] := hl
  generalize hQQ : MQ below _ args s 0 0 A = QQ
  refine lv_iconst (v := 0) hx hb dX4_goOn_0 (by decide) ?_
  refine lv_istore_n (lv' := [(1, .int (0 : Int32)), (0, .ref (q 0))]) hx hb dX4_goOn_1 rfl hl (by decide) rfl (fun ls hl => ?_)
  refine lv_iconst (v := 0) hx hb dX4_goOn_2 (by decide) ?_
  refine lv_istore_n (lv' := [(2, .int (0 : Int32)), (1, .int (0 : Int32)), (0, .ref (q 0))]) hx hb dX4_goOn_3 rfl hl (by decide) rfl (fun ls hl => ?_)
  refine it_loop (f := (L_X4_goOn_4 speeds pulls)) 8 (fun (i4 : Nat) (s4 : Int32 × (Nat → Int32) × (Nat → Int32) × (Nat → Int32) × (Nat → Int32)) => ∀ (ls : Array Slot) (H : Heap) (locs : List Loc), lv_has ls 3 [(2, .int (nI i4)), (1, .int s4.1), (0, .ref (q 0))] → va_P G classes [stC q cI beams speeds s4.2.1 s4.2.2.1 s4.2.2.2.1 s4.2.2.2.2 kickSums nearTicks gives settings ticks kicks strikeTicks pulls leaders].flatten H → va_D A [stC q cI beams speeds s4.2.1 s4.2.2.1 s4.2.2.2.1 s4.2.2.2.2 kickSums nearTicks gives settings ticks kicks strikeTicks pulls leaders].flatten → va_S A s.heap H locs → W p l e ({ frames := 1, cells := 0, slots := 0, locals := 22 } : Room) s m args below meth c H locs 0 0 QQ (F0 m 4 ls [])) (fun i4 s4 hi4 ih => ?_) 8 0 ((0 : Int32), phases, springs, strikes, ways) (by omega) ?_ ls _ _ (lv_sub hl [0, 1, 2] rfl) hP hD hS
  · intro ls H locs hl hP hD hS
    refine lv_iload_n hx hb dX4_goOn_4 rfl (lv_at hl 0 rfl) ?_
    refine lv_bipush (v := 8) hx hb dX4_goOn_5 (by decide) ?_
    refine nv_ge hx hb i4 8 52 (by omega) (by omega) dX4_goOn_7 (by decide) (fun hc => absurd hc (by omega)) (fun _ => ?_)
    refine lv_aload_n hx hb dX4_goOn_10 rfl (lv_at hl 2 rfl) ?_
    refine lv_iload_n hx hb dX4_goOn_11 rfl (lv_at hl 0 rfl) ?_
    refine ct_callV (As := [.int (nI i4)]) (rest := []) X hP hD hS hA (k_X4_goes l G cI cS cL q beams speeds s4.2.1 s4.2.2.1 s4.2.2.2.1 s4.2.2.2.2 kickSums nearTicks gives settings ticks kicks strikeTicks pulls leaders i4 (by omega)) cp_X4_goes aw_292 ⟨Nat.le_of_ble_eq_true rfl, Nat.le_of_ble_eq_true rfl⟩ [0] (cs := [stC q cI beams speeds s4.2.1 s4.2.2.1 s4.2.2.2.1 s4.2.2.2.2 kickSums nearTicks gives settings ticks kicks strikeTicks pulls leaders]) rfl (by decide) (cs' := [stC q cI beams speeds s4.2.1 s4.2.2.1 s4.2.2.2.1 s4.2.2.2.2 kickSums nearTicks gives settings ticks kicks strikeTicks pulls leaders]) rfl rfl 2 rfl rfl (q0 := 0) rfl rfl hl.1 rfl (Nat.le_of_ble_eq_true rfl) dX4_goOn_12 ⟨Nat.zero_le _, Nat.zero_le _⟩ rfl (bs' := [stC q cI beams speeds s4.2.1 s4.2.2.1 s4.2.2.2.1 s4.2.2.2.2 kickSums nearTicks gives settings ticks kicks strikeTicks pulls leaders]) rfl (fun H locs hP hD hS => ?_)
    have hM_16 : ∀ (v_11 : Int32) (v_12 : Nat → Int32) (v_13 : Nat → Int32) (v_14 : Nat → Int32) (v_15 : Nat → Int32) (ls : Array Slot) (H : Heap) (locs : List Loc), v_11 = (if (f_X4_goes s4.2.2.1 i4) = true then (if ((f_X4_strikesBy s4.2.1 s4.2.2.1 s4.2.2.2.1 s4.2.2.2.2 i4 (if (0 : Int32) < ((speeds i4) + (pulls i4)) then ((speeds i4) + (pulls i4)) else (0 : Int32))).1) = true then (s4.1 + (1 : Int32)) else s4.1) else s4.1) → v_12 = (if (f_X4_goes s4.2.2.1 i4) = true then (f_X4_strikesBy s4.2.1 s4.2.2.1 s4.2.2.2.1 s4.2.2.2.2 i4 (if (0 : Int32) < ((speeds i4) + (pulls i4)) then ((speeds i4) + (pulls i4)) else (0 : Int32))).2.1 else s4.2.1) → v_13 = (if (f_X4_goes s4.2.2.1 i4) = true then (f_X4_strikesBy s4.2.1 s4.2.2.1 s4.2.2.2.1 s4.2.2.2.2 i4 (if (0 : Int32) < ((speeds i4) + (pulls i4)) then ((speeds i4) + (pulls i4)) else (0 : Int32))).2.2.1 else s4.2.2.1) → v_14 = (if (f_X4_goes s4.2.2.1 i4) = true then (f_X4_strikesBy s4.2.1 s4.2.2.1 s4.2.2.2.1 s4.2.2.2.2 i4 (if (0 : Int32) < ((speeds i4) + (pulls i4)) then ((speeds i4) + (pulls i4)) else (0 : Int32))).2.2.2.1 else s4.2.2.2.1) → v_15 = (if (f_X4_goes s4.2.2.1 i4) = true then (f_X4_strikesBy s4.2.1 s4.2.2.1 s4.2.2.2.1 s4.2.2.2.2 i4 (if (0 : Int32) < ((speeds i4) + (pulls i4)) then ((speeds i4) + (pulls i4)) else (0 : Int32))).2.2.2.2 else s4.2.2.2.2) → lv_has ls 3 [(1, .int v_11), (2, .int (nI i4)), (0, .ref (q 0))] → va_P G classes [stC q cI beams speeds v_12 v_13 v_14 v_15 kickSums nearTicks gives settings ticks kicks strikeTicks pulls leaders].flatten H → va_D A [stC q cI beams speeds v_12 v_13 v_14 v_15 kickSums nearTicks gives settings ticks kicks strikeTicks pulls leaders].flatten → va_S A s.heap H locs → W p l e ({ frames := 1, cells := 0, slots := 0, locals := 22 } : Room) s m args below meth c H locs 0 0 QQ (F0 m 46 ls []) := by
      intro v_11 v_12 v_13 v_14 v_15 ls H locs e_v_11 e_v_12 e_v_13 e_v_14 e_v_15 hl hP hD hS
      subst e_v_11 e_v_12 e_v_13 e_v_14 e_v_15
      refine nv_iinc (k := 1) (lv' := [(2, .int (nI (i4 + 1))), (1, .int (if (f_X4_goes s4.2.2.1 i4) = true then (if ((f_X4_strikesBy s4.2.1 s4.2.2.1 s4.2.2.2.1 s4.2.2.2.2 i4 (if (0 : Int32) < ((speeds i4) + (pulls i4)) then ((speeds i4) + (pulls i4)) else (0 : Int32))).1) = true then (s4.1 + (1 : Int32)) else s4.1) else s4.1)), (0, .ref (q 0))]) hx hb i4 dX4_goOn_46 hl rfl (by decide) rfl (fun ls hl => ?_)
      refine lv_goto (tgt := 4) hx hb dX4_goOn_49 (by decide) ?_
      exact ih _ _ _ (lv_sub hl [0, 1, 2] rfl) hP hD hS
    refine bv_ifeq hx hb (f_X4_goes s4.2.2.1 i4) 46 dX4_goOn_15 (by decide) (fun c_3 => ?_) (fun c_3 => ?_)
    · exact hM_16 s4.1 s4.2.1 s4.2.2.1 s4.2.2.2.1 s4.2.2.2.2 _ _ _ (if_neg c_3).symm (if_neg c_3).symm (if_neg c_3).symm (if_neg c_3).symm (if_neg c_3).symm (lv_sub hl [1, 0, 2] rfl) hP hD hS
    · refine lv_aload_n hx hb dX4_goOn_18 rfl (lv_at hl 2 rfl) ?_
      refine lv_iload_n hx hb dX4_goOn_19 rfl (lv_at hl 0 rfl) ?_
      refine lv_iconst (v := 0) hx hb dX4_goOn_20 (by decide) ?_
      refine lv_aload_n hx hb dX4_goOn_21 rfl (lv_at hl 2 rfl) ?_
      refine va_get (D := G) (ci := 2) (C := RX4) (T := TX4) (N := 15) hx hb hw in_X4 hown hK hP 0 rfl rfl 1 (by decide) (hw _ aw_67) (fun _ h9 => h9) rfl dX4_goOn_22 ?_
      refine lv_iload_n hx hb dX4_goOn_25 rfl (lv_at hl 0 rfl) ?_
      refine nv_iald hx hb hK hP 2 0 rfl rfl i4 (by omega) (by decide) dX4_goOn_26 ?_
      refine lv_aload_n hx hb dX4_goOn_27 rfl (lv_at hl 2 rfl) ?_
      refine va_get (D := G) (ci := 2) (C := RX4) (T := TX4) (N := 15) hx hb hw in_X4 hown hK hP 0 rfl rfl 13 (by decide) (hw _ aw_86) (fun _ h9 => h9) rfl dX4_goOn_28 ?_
      refine lv_iload_n hx hb dX4_goOn_31 rfl (lv_at hl 0 rfl) ?_
      refine nv_iald hx hb hK hP 11 0 rfl rfl i4 (by omega) (by decide) dX4_goOn_32 ?_
      refine lv_iadd hx hb dX4_goOn_33 ?_
      refine va_mmax hx hb (hml.trans hl.1.symm) hown (hw _ aw_337) (hw _ aw_338) (hw _ aw_43) (hw _ aw_339) (Nat.le_of_ble_eq_true rfl) (Nat.le_of_ble_eq_true rfl) (Nat.zero_le _) (Nat.zero_le _) dX4_goOn_34 ?_
      refine ct_callV (As := [.int (nI i4), .int (if (0 : Int32) < ((speeds i4) + (pulls i4)) then ((speeds i4) + (pulls i4)) else (0 : Int32))]) (rest := []) X hP hD hS hA (k_X4_strikesBy l G cI cS cL q beams speeds s4.2.1 s4.2.2.1 s4.2.2.2.1 s4.2.2.2.2 kickSums nearTicks gives settings ticks kicks strikeTicks pulls leaders i4 (if (0 : Int32) < ((speeds i4) + (pulls i4)) then ((speeds i4) + (pulls i4)) else (0 : Int32)) (by omega)) cp_X4_strikesBy aw_503 ⟨Nat.le_of_ble_eq_true rfl, Nat.le_of_ble_eq_true rfl⟩ [0] (cs := [stC q cI beams speeds s4.2.1 s4.2.2.1 s4.2.2.2.1 s4.2.2.2.2 kickSums nearTicks gives settings ticks kicks strikeTicks pulls leaders]) rfl (by decide) (cs' := [stC q cI beams speeds ((f_X4_strikesBy s4.2.1 s4.2.2.1 s4.2.2.2.1 s4.2.2.2.2 i4 (if (0 : Int32) < ((speeds i4) + (pulls i4)) then ((speeds i4) + (pulls i4)) else (0 : Int32))).2.1) ((f_X4_strikesBy s4.2.1 s4.2.2.1 s4.2.2.2.1 s4.2.2.2.2 i4 (if (0 : Int32) < ((speeds i4) + (pulls i4)) then ((speeds i4) + (pulls i4)) else (0 : Int32))).2.2.1) ((f_X4_strikesBy s4.2.1 s4.2.2.1 s4.2.2.2.1 s4.2.2.2.2 i4 (if (0 : Int32) < ((speeds i4) + (pulls i4)) then ((speeds i4) + (pulls i4)) else (0 : Int32))).2.2.2.1) ((f_X4_strikesBy s4.2.1 s4.2.2.1 s4.2.2.2.1 s4.2.2.2.2 i4 (if (0 : Int32) < ((speeds i4) + (pulls i4)) then ((speeds i4) + (pulls i4)) else (0 : Int32))).2.2.2.2) kickSums nearTicks gives settings ticks kicks strikeTicks pulls leaders]) rfl rfl 2 rfl rfl (q0 := 0) rfl rfl hl.1 rfl (Nat.le_of_ble_eq_true rfl) dX4_goOn_37 ⟨Nat.zero_le _, Nat.zero_le _⟩ rfl (bs' := [stC q cI beams speeds ((f_X4_strikesBy s4.2.1 s4.2.2.1 s4.2.2.2.1 s4.2.2.2.2 i4 (if (0 : Int32) < ((speeds i4) + (pulls i4)) then ((speeds i4) + (pulls i4)) else (0 : Int32))).2.1) ((f_X4_strikesBy s4.2.1 s4.2.2.1 s4.2.2.2.1 s4.2.2.2.2 i4 (if (0 : Int32) < ((speeds i4) + (pulls i4)) then ((speeds i4) + (pulls i4)) else (0 : Int32))).2.2.1) ((f_X4_strikesBy s4.2.1 s4.2.2.1 s4.2.2.2.1 s4.2.2.2.2 i4 (if (0 : Int32) < ((speeds i4) + (pulls i4)) then ((speeds i4) + (pulls i4)) else (0 : Int32))).2.2.2.1) ((f_X4_strikesBy s4.2.1 s4.2.2.1 s4.2.2.2.1 s4.2.2.2.2 i4 (if (0 : Int32) < ((speeds i4) + (pulls i4)) then ((speeds i4) + (pulls i4)) else (0 : Int32))).2.2.2.2) kickSums nearTicks gives settings ticks kicks strikeTicks pulls leaders]) rfl (fun H locs hP hD hS => ?_)
      have hM_9 : ∀ (v_8 : Int32) (ls : Array Slot) (H : Heap) (locs : List Loc), v_8 = (if ((f_X4_strikesBy s4.2.1 s4.2.2.1 s4.2.2.2.1 s4.2.2.2.2 i4 (if (0 : Int32) < ((speeds i4) + (pulls i4)) then ((speeds i4) + (pulls i4)) else (0 : Int32))).1) = true then (s4.1 + (1 : Int32)) else s4.1) → lv_has ls 3 [(1, .int v_8), (2, .int (nI i4)), (0, .ref (q 0))] → va_P G classes [stC q cI beams speeds ((f_X4_strikesBy s4.2.1 s4.2.2.1 s4.2.2.2.1 s4.2.2.2.2 i4 (if (0 : Int32) < ((speeds i4) + (pulls i4)) then ((speeds i4) + (pulls i4)) else (0 : Int32))).2.1) ((f_X4_strikesBy s4.2.1 s4.2.2.1 s4.2.2.2.1 s4.2.2.2.2 i4 (if (0 : Int32) < ((speeds i4) + (pulls i4)) then ((speeds i4) + (pulls i4)) else (0 : Int32))).2.2.1) ((f_X4_strikesBy s4.2.1 s4.2.2.1 s4.2.2.2.1 s4.2.2.2.2 i4 (if (0 : Int32) < ((speeds i4) + (pulls i4)) then ((speeds i4) + (pulls i4)) else (0 : Int32))).2.2.2.1) ((f_X4_strikesBy s4.2.1 s4.2.2.1 s4.2.2.2.1 s4.2.2.2.2 i4 (if (0 : Int32) < ((speeds i4) + (pulls i4)) then ((speeds i4) + (pulls i4)) else (0 : Int32))).2.2.2.2) kickSums nearTicks gives settings ticks kicks strikeTicks pulls leaders].flatten H → va_D A [stC q cI beams speeds ((f_X4_strikesBy s4.2.1 s4.2.2.1 s4.2.2.2.1 s4.2.2.2.2 i4 (if (0 : Int32) < ((speeds i4) + (pulls i4)) then ((speeds i4) + (pulls i4)) else (0 : Int32))).2.1) ((f_X4_strikesBy s4.2.1 s4.2.2.1 s4.2.2.2.1 s4.2.2.2.2 i4 (if (0 : Int32) < ((speeds i4) + (pulls i4)) then ((speeds i4) + (pulls i4)) else (0 : Int32))).2.2.1) ((f_X4_strikesBy s4.2.1 s4.2.2.1 s4.2.2.2.1 s4.2.2.2.2 i4 (if (0 : Int32) < ((speeds i4) + (pulls i4)) then ((speeds i4) + (pulls i4)) else (0 : Int32))).2.2.2.1) ((f_X4_strikesBy s4.2.1 s4.2.2.1 s4.2.2.2.1 s4.2.2.2.2 i4 (if (0 : Int32) < ((speeds i4) + (pulls i4)) then ((speeds i4) + (pulls i4)) else (0 : Int32))).2.2.2.2) kickSums nearTicks gives settings ticks kicks strikeTicks pulls leaders].flatten → va_S A s.heap H locs → W p l e ({ frames := 1, cells := 0, slots := 0, locals := 22 } : Room) s m args below meth c H locs 0 0 QQ (F0 m 46 ls []) := by
        intro v_8 ls H locs e_v_8 hl hP hD hS
        subst e_v_8
        exact hM_16 (if ((f_X4_strikesBy s4.2.1 s4.2.2.1 s4.2.2.2.1 s4.2.2.2.2 i4 (if (0 : Int32) < ((speeds i4) + (pulls i4)) then ((speeds i4) + (pulls i4)) else (0 : Int32))).1) = true then (s4.1 + (1 : Int32)) else s4.1) ((f_X4_strikesBy s4.2.1 s4.2.2.1 s4.2.2.2.1 s4.2.2.2.2 i4 (if (0 : Int32) < ((speeds i4) + (pulls i4)) then ((speeds i4) + (pulls i4)) else (0 : Int32))).2.1) ((f_X4_strikesBy s4.2.1 s4.2.2.1 s4.2.2.2.1 s4.2.2.2.2 i4 (if (0 : Int32) < ((speeds i4) + (pulls i4)) then ((speeds i4) + (pulls i4)) else (0 : Int32))).2.2.1) ((f_X4_strikesBy s4.2.1 s4.2.2.1 s4.2.2.2.1 s4.2.2.2.2 i4 (if (0 : Int32) < ((speeds i4) + (pulls i4)) then ((speeds i4) + (pulls i4)) else (0 : Int32))).2.2.2.1) ((f_X4_strikesBy s4.2.1 s4.2.2.1 s4.2.2.2.1 s4.2.2.2.2 i4 (if (0 : Int32) < ((speeds i4) + (pulls i4)) then ((speeds i4) + (pulls i4)) else (0 : Int32))).2.2.2.2) _ _ _ (if_pos c_3).symm (if_pos c_3).symm (if_pos c_3).symm (if_pos c_3).symm (if_pos c_3).symm (lv_sub hl [0, 1, 2] rfl) hP hD hS
      refine bv_ifeq hx hb ((f_X4_strikesBy s4.2.1 s4.2.2.1 s4.2.2.2.1 s4.2.2.2.2 i4 (if (0 : Int32) < ((speeds i4) + (pulls i4)) then ((speeds i4) + (pulls i4)) else (0 : Int32))).1) 46 dX4_goOn_40 (by decide) (fun c_5 => ?_) (fun c_5 => ?_)
      · exact hM_9 s4.1 _ _ _ (if_neg c_5).symm (lv_sub hl [1, 0, 2] rfl) hP hD hS
      · refine lv_iinc (v := (s4.1 + (1 : Int32))) (k := 1) (lv' := [(1, .int (s4.1 + (1 : Int32))), (2, .int (nI i4)), (0, .ref (q 0))]) hx hb dX4_goOn_43 hl rfl rfl (by decide) rfl (fun ls hl => ?_)
        exact hM_9 (s4.1 + (1 : Int32)) _ _ _ (if_pos c_5).symm (lv_sub hl [0, 1, 2] rfl) hP hD hS
  · intro ls H locs hl hP hD hS
    refine lv_iload_n hx hb dX4_goOn_4 rfl (lv_at hl 0 rfl) ?_
    refine lv_bipush (v := 8) hx hb dX4_goOn_5 (by decide) ?_
    refine nv_ge hx hb 8 8 52 (by omega) (by omega) dX4_goOn_7 (by decide) (fun _ => ?_) (fun hc => absurd hc (by omega))
    refine lv_iload_n hx hb dX4_goOn_52 rfl (lv_at hl 1 rfl) ?_
    rw [← hQQ]; exact W.iret hx hb hr (ct_end (F := (f_X4_goOn speeds phases springs strikes ways pulls)) (u := (it (L_X4_goOn_4 speeds pulls) 0 8 ((0 : Int32), phases, springs, strikes, ways))) (rf := (fun u => some (.int u.1))) (wf := (fun u => [stC q cI beams speeds u.2.1 u.2.2.1 u.2.2.2.1 u.2.2.2.2 kickSums nearTicks gives settings ticks kicks strikeTicks pulls leaders].flatten)) rfl rfl hP hD hS) hS.2.2 dX4_goOn_53
set_option maxRecDepth 100000 in
set_option maxHeartbeats 4000000 in
theorem k_X4_windUp (l : Launch) (G : va_G) (cI cS cL : ClassId) (q : Nat → Nat) (beams : Nat → Int32) (speeds : Nat → Int32) (phases : Nat → Int32) (springs : Nat → Int32) (strikes : Nat → Int32) (ways : Nat → Int32) (kickSums : Nat → Int32) (nearTicks : Nat → Int32) (gives : Nat → Int32) (settings : Nat → Int32) (ticks : Int32) (kicks : Int32) (strikeTicks : Int32) (pulls : Nat → Int32) (leaders : Nat → Int32) (k : Nat) (hk : k < 8) : Ct l G (tyl cI cS cL) yX4_windUp cX4_windUp 2 none 0 0 0 0 [.ref (q 0), .int (nI k)] [stC q cI beams speeds phases springs strikes ways kickSums nearTicks gives settings ticks kicks strikeTicks pulls leaders].flatten (f_X4_windUp springs k) (fun _ => none) (fun u => [stC q cI beams speeds phases u strikes ways kickSums nearTicks gives settings ticks kicks strikeTicks pulls leaders].flatten) := by
  refine Ct.of (by decide +kernel) (Nat.le_of_ble_eq_true rfl) ?_
  intro p e s m args below meth c A ls hx hb hr hml hw hown hlocks hin hK hN hP hD hS hA hl
  have hown : s.vm.findClass RX4 = some m.cls := hown
  have X : Cx p s m args c cX4_windUp 2 RX4 G (tyl cI cS cL) := ⟨hx, hb, hml, hown, hw, hK, hN⟩
  have hP : va_P G classes [stC q cI beams speeds phases springs strikes ways kickSums nearTicks gives settings ticks kicks strikeTicks pulls leaders].flatten s.heap := hP
  have hl : lv_has ls 2 [(0, .ref (q 0)), (1, .int (nI k))] := hl
  generalize hQQ : MQ below _ args s 0 0 A = QQ
  refine lv_aload_n hx hb dX4_windUp_0 rfl (lv_at hl 0 rfl) ?_
  refine va_get (D := G) (ci := 2) (C := RX4) (T := TX4) (N := 15) hx hb hw in_X4 hown hK hP 0 rfl rfl 3 (by decide) (hw _ aw_71) (fun _ h9 => h9) rfl dX4_windUp_1 ?_
  refine lv_iload_n hx hb dX4_windUp_4 rfl (lv_at hl 1 rfl) ?_
  refine lv_bipush (v := 99) hx hb dX4_windUp_5 (by decide) ?_
  refine nv_iast hx hb hK hP hD hS 4 0 rfl rfl k (by omega) (by decide) dX4_windUp_7 (ws' := [stC q cI beams speeds phases (upd springs k (99 : Int32)) strikes ways kickSums nearTicks gives settings ticks kicks strikeTicks pulls leaders].flatten) rfl (fun H locs hP hD hS => ?_)
  rw [← hQQ]; exact W.vret hx hb hr (ct_end (F := (f_X4_windUp springs k)) (u := (upd springs k (99 : Int32))) (rf := (fun _ => none)) (wf := (fun u => [stC q cI beams speeds phases u strikes ways kickSums nearTicks gives settings ticks kicks strikeTicks pulls leaders].flatten)) rfl rfl hP hD hS) hS.2.2 dX4_windUp_8
set_option maxRecDepth 100000 in
set_option maxHeartbeats 4000000 in
theorem k_X4_hangOn (l : Launch) (G : va_G) (cI cS cL : ClassId) (q : Nat → Nat) (beams : Nat → Int32) (speeds : Nat → Int32) (phases : Nat → Int32) (springs : Nat → Int32) (strikes : Nat → Int32) (ways : Nat → Int32) (kickSums : Nat → Int32) (nearTicks : Nat → Int32) (gives : Nat → Int32) (settings : Nat → Int32) (ticks : Int32) (kicks : Int32) (strikeTicks : Int32) (pulls : Nat → Int32) (leaders : Nat → Int32) (k : Nat) (b : Int32) (hk : k < 8) : Ct l G (tyl cI cS cL) yX4_hangOn cX4_hangOn 4 none 1 23 0 0 [.ref (q 0), .int (nI k), .int b] [stC q cI beams speeds phases springs strikes ways kickSums nearTicks gives settings ticks kicks strikeTicks pulls leaders].flatten (f_X4_hangOn beams nearTicks k b) (fun _ => none) (fun u => [stC q cI u.1 speeds phases springs strikes ways kickSums u.2 gives settings ticks kicks strikeTicks pulls leaders].flatten) := by
  refine Ct.of (by decide +kernel) (Nat.le_of_ble_eq_true rfl) ?_
  intro p e s m args below meth c A ls hx hb hr hml hw hown hlocks hin hK hN hP hD hS hA hl
  have hown : s.vm.findClass RX4 = some m.cls := hown
  have X : Cx p s m args c cX4_hangOn 4 RX4 G (tyl cI cS cL) := ⟨hx, hb, hml, hown, hw, hK, hN⟩
  have hP : va_P G classes [stC q cI beams speeds phases springs strikes ways kickSums nearTicks gives settings ticks kicks strikeTicks pulls leaders].flatten s.heap := hP
  have hl : lv_has ls 4 [(0, .ref (q 0)), (1, .int (nI k)), (2, .int b)] := hl
  generalize hQQ : MQ below _ args s 0 0 A = QQ
  refine lv_aload_n hx hb dX4_hangOn_0 rfl (lv_at hl 0 rfl) ?_
  refine va_get (D := G) (ci := 2) (C := RX4) (T := TX4) (N := 15) hx hb hw in_X4 hown hK hP 0 rfl rfl 0 (by decide) (hw _ aw_66) (fun _ h9 => h9) rfl dX4_hangOn_1 ?_
  refine lv_iload_n hx hb dX4_hangOn_4 rfl (lv_at hl 1 rfl) ?_
  refine lv_iload_n hx hb dX4_hangOn_5 rfl (lv_at hl 2 rfl) ?_
  refine nv_iast hx hb hK hP hD hS 1 0 rfl rfl k (by omega) (by decide) dX4_hangOn_6 (ws' := [stC q cI (upd beams k b) speeds phases springs strikes ways kickSums nearTicks gives settings ticks kicks strikeTicks pulls leaders].flatten) rfl (fun H locs hP hD hS => ?_)
  refine lv_iconst (v := 0) hx hb dX4_hangOn_7 (by decide) ?_
  refine lv_istore_n (lv' := [(3, .int (0 : Int32)), (0, .ref (q 0)), (1, .int (nI k)), (2, .int b)]) hx hb dX4_hangOn_8 rfl hl (by decide) rfl (fun ls hl => ?_)
  refine it_loop (f := (L_X4_hangOn_9 k)) 8 (fun (i9 : Nat) (s9 : (Nat → Int32)) => ∀ (ls : Array Slot) (H : Heap) (locs : List Loc), lv_has ls 4 [(3, .int (nI i9)), (0, .ref (q 0)), (1, .int (nI k))] → va_P G classes [stC q cI (upd beams k b) speeds phases springs strikes ways kickSums s9 gives settings ticks kicks strikeTicks pulls leaders].flatten H → va_D A [stC q cI (upd beams k b) speeds phases springs strikes ways kickSums s9 gives settings ticks kicks strikeTicks pulls leaders].flatten → va_S A s.heap H locs → W p l e ({ frames := 1, cells := 0, slots := 0, locals := 23 } : Room) s m args below meth c H locs 0 0 QQ (F0 m 9 ls [])) (fun i9 s9 hi9 ih => ?_) 8 0 nearTicks (by omega) ?_ ls _ _ (lv_sub hl [0, 1, 2] rfl) hP hD hS
  · intro ls H locs hl hP hD hS
    refine lv_iload_n hx hb dX4_hangOn_9 rfl (lv_at hl 0 rfl) ?_
    refine lv_bipush (v := 8) hx hb dX4_hangOn_10 (by decide) ?_
    refine nv_ge hx hb i9 8 28 (by omega) (by omega) dX4_hangOn_12 (by decide) (fun hc => absurd hc (by omega)) (fun _ => ?_)
    refine lv_aload_n hx hb dX4_hangOn_15 rfl (lv_at hl 1 rfl) ?_
    refine lv_iload_n hx hb dX4_hangOn_16 rfl (lv_at hl 2 rfl) ?_
    refine lv_iload_n hx hb dX4_hangOn_17 rfl (lv_at hl 0 rfl) ?_
    refine lv_iconst (v := 0) hx hb dX4_hangOn_18 (by decide) ?_
    refine ct_callV (As := [.int (nI k), .int (nI i9), .int (0 : Int32)]) (rest := []) X hP hD hS hA (k_X4_setTicksNear l G cI cS cL q (upd beams k b) speeds phases springs strikes ways kickSums s9 gives settings ticks kicks strikeTicks pulls leaders k i9 (0 : Int32) (by omega) (by omega)) cp_X4_setTicksNear aw_511 ⟨Nat.le_of_ble_eq_true rfl, Nat.le_of_ble_eq_true rfl⟩ [0] (cs := [stC q cI (upd beams k b) speeds phases springs strikes ways kickSums s9 gives settings ticks kicks strikeTicks pulls leaders]) rfl (by decide) (cs' := [stC q cI (upd beams k b) speeds phases springs strikes ways kickSums (f_X4_setTicksNear s9 k i9 (0 : Int32)) gives settings ticks kicks strikeTicks pulls leaders]) rfl rfl 2 rfl rfl (q0 := 0) rfl rfl hl.1 rfl (Nat.le_of_ble_eq_true rfl) dX4_hangOn_19 ⟨Nat.zero_le _, Nat.zero_le _⟩ rfl (bs' := [stC q cI (upd beams k b) speeds phases springs strikes ways kickSums (f_X4_setTicksNear s9 k i9 (0 : Int32)) gives settings ticks kicks strikeTicks pulls leaders]) rfl (fun H locs hP hD hS => ?_)
    refine nv_iinc (k := 0) (lv' := [(3, .int (nI (i9 + 1))), (0, .ref (q 0)), (1, .int (nI k))]) hx hb i9 dX4_hangOn_22 hl rfl (by decide) rfl (fun ls hl => ?_)
    refine lv_goto (tgt := 9) hx hb dX4_hangOn_25 (by decide) ?_
    exact ih _ _ _ (lv_sub hl [0, 1, 2] rfl) hP hD hS
  · intro ls H locs hl hP hD hS
    refine lv_iload_n hx hb dX4_hangOn_9 rfl (lv_at hl 0 rfl) ?_
    refine lv_bipush (v := 8) hx hb dX4_hangOn_10 (by decide) ?_
    refine nv_ge hx hb 8 8 28 (by omega) (by omega) dX4_hangOn_12 (by decide) (fun _ => ?_) (fun hc => absurd hc (by omega))
    rw [← hQQ]; exact W.vret hx hb hr (ct_end (F := (f_X4_hangOn beams nearTicks k b)) (u := ((upd beams k b), (it (L_X4_hangOn_9 k) 0 8 nearTicks))) (rf := (fun _ => none)) (wf := (fun u => [stC q cI u.1 speeds phases springs strikes ways kickSums u.2 gives settings ticks kicks strikeTicks pulls leaders].flatten)) rfl rfl hP hD hS) hS.2.2 dX4_hangOn_28
set_option maxRecDepth 100000 in
set_option maxHeartbeats 4000000 in
theorem k_J9_floorMod_7cf53 (l : Launch) (G : va_G) (cI cS cL : ClassId) (x : Int32) (y : Int32) (hy : ¬ y = 0) : Ct l G (tyl cI cS cL) yJ9_floorMod_7cf53 cJ9_floorMod_7cf53 3 (some (Jvm.ClassFile.FieldType.int)) 0 0 0 0 [.int x, .int y] [].flatten (f_J9_floorMod_7cf53 x y) (fun u => some (.int u)) (fun _ => [].flatten) := by
  refine Ct.of (by decide +kernel) (Nat.le_of_ble_eq_true rfl) ?_
  intro p e s m args below meth c A ls hx hb hr hml hw hown hlocks hin hK hN hP hD hS hA hl
  have hown : s.vm.findClass RJ9 = some m.cls := hown
  have X : Cx p s m args c cJ9_floorMod_7cf53 3 RJ9 G (tyl cI cS cL) := ⟨hx, hb, hml, hown, hw, hK, hN⟩
  have hP : va_P G classes [].flatten s.heap := hP
  have hl : lv_has ls 3 [(0, .int x), (1, .int y)] := hl
  generalize hQQ : MQ below _ args s 0 0 A = QQ
  refine lv_iload_n hx hb dJ9_floorMod_7cf53_0 rfl (lv_at hl 0 rfl) ?_
  refine lv_iload_n hx hb dJ9_floorMod_7cf53_1 rfl (lv_at hl 1 rfl) ?_
  refine lv_irem hx hb dJ9_floorMod_7cf53_2 (by first | decide | assumption) ?_
  refine lv_istore_n (lv' := [(2, .int (x - x / y * y)), (0, .int x), (1, .int y)]) hx hb dJ9_floorMod_7cf53_3 rfl hl (by decide) rfl (fun ls hl => ?_)
  refine lv_iload_n hx hb dJ9_floorMod_7cf53_4 rfl (lv_at hl 1 rfl) ?_
  refine lv_iload_n hx hb dJ9_floorMod_7cf53_5 rfl (lv_at hl 2 rfl) ?_
  refine lv_ixor hx hb dJ9_floorMod_7cf53_6 ?_
  refine lv_if_ge (tgt := 18) hx hb dJ9_floorMod_7cf53_7 (by decide) (fun c_1 => ?_) (fun c_1 => ?_)
  · refine lv_iload_n hx hb dJ9_floorMod_7cf53_18 rfl (lv_at hl 0 rfl) ?_
    rw [← hQQ]; exact W.iret hx hb hr (ct_end (F := (f_J9_floorMod_7cf53 x y)) (u := (x - x / y * y)) (rf := (fun u => some (.int u))) (wf := (fun _ => [].flatten)) (by first | (unfold f_J9_floorMod_7cf53; rw [if_pos c_1]; first | done | rfl) | (unfold f_J9_floorMod_7cf53; simp only [if_pos c_1])) rfl hP hD hS) hS.2.2 dJ9_floorMod_7cf53_19
  · refine lv_iload_n hx hb dJ9_floorMod_7cf53_10 rfl (lv_at hl 0 rfl) ?_
    refine lv_if_eq (tgt := 18) hx hb dJ9_floorMod_7cf53_11 (by decide) (fun c_3 => ?_) (fun c_3 => ?_)
    · refine lv_iload_n hx hb dJ9_floorMod_7cf53_18 rfl (lv_at hl 0 rfl) ?_
      rw [← hQQ]; exact W.iret hx hb hr (ct_end (F := (f_J9_floorMod_7cf53 x y)) (u := (x - x / y * y)) (rf := (fun u => some (.int u))) (wf := (fun _ => [].flatten)) (by first | (unfold f_J9_floorMod_7cf53; rw [if_neg c_1, if_pos c_3]; first | done | rfl) | (unfold f_J9_floorMod_7cf53; simp only [if_neg c_1, if_pos c_3])) rfl hP hD hS) hS.2.2 dJ9_floorMod_7cf53_19
    · refine lv_iload_n hx hb dJ9_floorMod_7cf53_14 rfl (lv_at hl 0 rfl) ?_
      refine lv_iload_n hx hb dJ9_floorMod_7cf53_15 rfl (lv_at hl 2 rfl) ?_
      refine lv_iadd hx hb dJ9_floorMod_7cf53_16 ?_
      rw [← hQQ]; exact W.iret hx hb hr (ct_end (F := (f_J9_floorMod_7cf53 x y)) (u := ((x - x / y * y) + y)) (rf := (fun u => some (.int u))) (wf := (fun _ => [].flatten)) (by first | (unfold f_J9_floorMod_7cf53; rw [if_neg c_1, if_neg c_3]; first | done | rfl) | (unfold f_J9_floorMod_7cf53; simp only [if_neg c_1, if_neg c_3])) rfl hP hD hS) hS.2.2 dJ9_floorMod_7cf53_17
set_option maxRecDepth 100000 in
set_option maxHeartbeats 4000000 in
theorem k_J6_bitCount_0f7a4 (l : Launch) (G : va_G) (cI cS cL : ClassId) (x : Int32) : Ct l G (tyl cI cS cL) yJ6_bitCount_0f7a4 cJ6_bitCount_0f7a4 1 (some (Jvm.ClassFile.FieldType.int)) 0 0 0 0 [.int x] [].flatten (f_J6_bitCount_0f7a4 x) (fun u => some (.int u)) (fun _ => [].flatten) := by
  refine Ct.of (by decide +kernel) (Nat.le_of_ble_eq_true rfl) ?_
  intro p e s m args below meth c A ls hx hb hr hml hw hown hlocks hin hK hN hP hD hS hA hl
  have hown : s.vm.findClass RJ6 = some m.cls := hown
  have X : Cx p s m args c cJ6_bitCount_0f7a4 1 RJ6 G (tyl cI cS cL) := ⟨hx, hb, hml, hown, hw, hK, hN⟩
  have hP : va_P G classes [].flatten s.heap := hP
  have hl : lv_has ls 1 [(0, .int x)] := hl
  generalize hQQ : MQ below _ args s 0 0 A = QQ
  refine lv_iload_n hx hb dJ6_bitCount_0f7a4_0 rfl (lv_at hl 0 rfl) ?_
  refine lv_iload_n hx hb dJ6_bitCount_0f7a4_1 rfl (lv_at hl 0 rfl) ?_
  refine lv_iconst (v := 1) hx hb dJ6_bitCount_0f7a4_2 (by decide) ?_
  refine lv_iushr hx hb dJ6_bitCount_0f7a4_3 rfl ?_
  refine lv_ldcw hx hb hown (hw _ aw_299) dJ6_bitCount_0f7a4_4 ?_
  refine lv_iand hx hb dJ6_bitCount_0f7a4_7 ?_
  refine lv_isub hx hb dJ6_bitCount_0f7a4_8 ?_
  refine lv_istore_n (lv' := [(0, .int (x - ((x.toUInt32 >>> ((1 : Int32).toUInt32 &&& Int32.toUInt32 31)).toInt32 &&& (1431655765 : Int32))))]) hx hb dJ6_bitCount_0f7a4_9 rfl hl (by decide) rfl (fun ls hl => ?_)
  refine lv_iload_n hx hb dJ6_bitCount_0f7a4_10 rfl (lv_at hl 0 rfl) ?_
  refine lv_ldcw hx hb hown (hw _ aw_300) dJ6_bitCount_0f7a4_11 ?_
  refine lv_iand hx hb dJ6_bitCount_0f7a4_14 ?_
  refine lv_iload_n hx hb dJ6_bitCount_0f7a4_15 rfl (lv_at hl 0 rfl) ?_
  refine lv_iconst (v := 2) hx hb dJ6_bitCount_0f7a4_16 (by decide) ?_
  refine lv_iushr hx hb dJ6_bitCount_0f7a4_17 rfl ?_
  refine lv_ldcw hx hb hown (hw _ aw_300) dJ6_bitCount_0f7a4_18 ?_
  refine lv_iand hx hb dJ6_bitCount_0f7a4_21 ?_
  refine lv_iadd hx hb dJ6_bitCount_0f7a4_22 ?_
  refine lv_istore_n (lv' := [(0, .int (((x - ((x.toUInt32 >>> ((1 : Int32).toUInt32 &&& Int32.toUInt32 31)).toInt32 &&& (1431655765 : Int32))) &&& (858993459 : Int32)) + (((x - ((x.toUInt32 >>> ((1 : Int32).toUInt32 &&& Int32.toUInt32 31)).toInt32 &&& (1431655765 : Int32))).toUInt32 >>> ((2 : Int32).toUInt32 &&& Int32.toUInt32 31)).toInt32 &&& (858993459 : Int32))))]) hx hb dJ6_bitCount_0f7a4_23 rfl hl (by decide) rfl (fun ls hl => ?_)
  refine lv_iload_n hx hb dJ6_bitCount_0f7a4_24 rfl (lv_at hl 0 rfl) ?_
  refine lv_iload_n hx hb dJ6_bitCount_0f7a4_25 rfl (lv_at hl 0 rfl) ?_
  refine lv_iconst (v := 4) hx hb dJ6_bitCount_0f7a4_26 (by decide) ?_
  refine lv_iushr hx hb dJ6_bitCount_0f7a4_27 rfl ?_
  refine lv_iadd hx hb dJ6_bitCount_0f7a4_28 ?_
  refine lv_ldcw hx hb hown (hw _ aw_301) dJ6_bitCount_0f7a4_29 ?_
  refine lv_iand hx hb dJ6_bitCount_0f7a4_32 ?_
  refine lv_istore_n (lv' := [(0, .int (((((x - ((x.toUInt32 >>> ((1 : Int32).toUInt32 &&& Int32.toUInt32 31)).toInt32 &&& (1431655765 : Int32))) &&& (858993459 : Int32)) + (((x - ((x.toUInt32 >>> ((1 : Int32).toUInt32 &&& Int32.toUInt32 31)).toInt32 &&& (1431655765 : Int32))).toUInt32 >>> ((2 : Int32).toUInt32 &&& Int32.toUInt32 31)).toInt32 &&& (858993459 : Int32))) + ((((x - ((x.toUInt32 >>> ((1 : Int32).toUInt32 &&& Int32.toUInt32 31)).toInt32 &&& (1431655765 : Int32))) &&& (858993459 : Int32)) + (((x - ((x.toUInt32 >>> ((1 : Int32).toUInt32 &&& Int32.toUInt32 31)).toInt32 &&& (1431655765 : Int32))).toUInt32 >>> ((2 : Int32).toUInt32 &&& Int32.toUInt32 31)).toInt32 &&& (858993459 : Int32))).toUInt32 >>> ((4 : Int32).toUInt32 &&& Int32.toUInt32 31)).toInt32) &&& (252645135 : Int32)))]) hx hb dJ6_bitCount_0f7a4_33 rfl hl (by decide) rfl (fun ls hl => ?_)
  refine lv_iload_n hx hb dJ6_bitCount_0f7a4_34 rfl (lv_at hl 0 rfl) ?_
  refine lv_iload_n hx hb dJ6_bitCount_0f7a4_35 rfl (lv_at hl 0 rfl) ?_
  refine lv_bipush (v := 8) hx hb dJ6_bitCount_0f7a4_36 (by decide) ?_
  refine lv_iushr hx hb dJ6_bitCount_0f7a4_38 rfl ?_
  refine lv_iadd hx hb dJ6_bitCount_0f7a4_39 ?_
  refine lv_istore_n (lv' := [(0, .int ((((((x - ((x.toUInt32 >>> ((1 : Int32).toUInt32 &&& Int32.toUInt32 31)).toInt32 &&& (1431655765 : Int32))) &&& (858993459 : Int32)) + (((x - ((x.toUInt32 >>> ((1 : Int32).toUInt32 &&& Int32.toUInt32 31)).toInt32 &&& (1431655765 : Int32))).toUInt32 >>> ((2 : Int32).toUInt32 &&& Int32.toUInt32 31)).toInt32 &&& (858993459 : Int32))) + ((((x - ((x.toUInt32 >>> ((1 : Int32).toUInt32 &&& Int32.toUInt32 31)).toInt32 &&& (1431655765 : Int32))) &&& (858993459 : Int32)) + (((x - ((x.toUInt32 >>> ((1 : Int32).toUInt32 &&& Int32.toUInt32 31)).toInt32 &&& (1431655765 : Int32))).toUInt32 >>> ((2 : Int32).toUInt32 &&& Int32.toUInt32 31)).toInt32 &&& (858993459 : Int32))).toUInt32 >>> ((4 : Int32).toUInt32 &&& Int32.toUInt32 31)).toInt32) &&& (252645135 : Int32)) + ((((((x - ((x.toUInt32 >>> ((1 : Int32).toUInt32 &&& Int32.toUInt32 31)).toInt32 &&& (1431655765 : Int32))) &&& (858993459 : Int32)) + (((x - ((x.toUInt32 >>> ((1 : Int32).toUInt32 &&& Int32.toUInt32 31)).toInt32 &&& (1431655765 : Int32))).toUInt32 >>> ((2 : Int32).toUInt32 &&& Int32.toUInt32 31)).toInt32 &&& (858993459 : Int32))) + ((((x - ((x.toUInt32 >>> ((1 : Int32).toUInt32 &&& Int32.toUInt32 31)).toInt32 &&& (1431655765 : Int32))) &&& (858993459 : Int32)) + (((x - ((x.toUInt32 >>> ((1 : Int32).toUInt32 &&& Int32.toUInt32 31)).toInt32 &&& (1431655765 : Int32))).toUInt32 >>> ((2 : Int32).toUInt32 &&& Int32.toUInt32 31)).toInt32 &&& (858993459 : Int32))).toUInt32 >>> ((4 : Int32).toUInt32 &&& Int32.toUInt32 31)).toInt32) &&& (252645135 : Int32)).toUInt32 >>> ((8 : Int32).toUInt32 &&& Int32.toUInt32 31)).toInt32))]) hx hb dJ6_bitCount_0f7a4_40 rfl hl (by decide) rfl (fun ls hl => ?_)
  refine lv_iload_n hx hb dJ6_bitCount_0f7a4_41 rfl (lv_at hl 0 rfl) ?_
  refine lv_iload_n hx hb dJ6_bitCount_0f7a4_42 rfl (lv_at hl 0 rfl) ?_
  refine lv_bipush (v := 16) hx hb dJ6_bitCount_0f7a4_43 (by decide) ?_
  refine lv_iushr hx hb dJ6_bitCount_0f7a4_45 rfl ?_
  refine lv_iadd hx hb dJ6_bitCount_0f7a4_46 ?_
  refine lv_istore_n (lv' := [(0, .int (((((((x - ((x.toUInt32 >>> ((1 : Int32).toUInt32 &&& Int32.toUInt32 31)).toInt32 &&& (1431655765 : Int32))) &&& (858993459 : Int32)) + (((x - ((x.toUInt32 >>> ((1 : Int32).toUInt32 &&& Int32.toUInt32 31)).toInt32 &&& (1431655765 : Int32))).toUInt32 >>> ((2 : Int32).toUInt32 &&& Int32.toUInt32 31)).toInt32 &&& (858993459 : Int32))) + ((((x - ((x.toUInt32 >>> ((1 : Int32).toUInt32 &&& Int32.toUInt32 31)).toInt32 &&& (1431655765 : Int32))) &&& (858993459 : Int32)) + (((x - ((x.toUInt32 >>> ((1 : Int32).toUInt32 &&& Int32.toUInt32 31)).toInt32 &&& (1431655765 : Int32))).toUInt32 >>> ((2 : Int32).toUInt32 &&& Int32.toUInt32 31)).toInt32 &&& (858993459 : Int32))).toUInt32 >>> ((4 : Int32).toUInt32 &&& Int32.toUInt32 31)).toInt32) &&& (252645135 : Int32)) + ((((((x - ((x.toUInt32 >>> ((1 : Int32).toUInt32 &&& Int32.toUInt32 31)).toInt32 &&& (1431655765 : Int32))) &&& (858993459 : Int32)) + (((x - ((x.toUInt32 >>> ((1 : Int32).toUInt32 &&& Int32.toUInt32 31)).toInt32 &&& (1431655765 : Int32))).toUInt32 >>> ((2 : Int32).toUInt32 &&& Int32.toUInt32 31)).toInt32 &&& (858993459 : Int32))) + ((((x - ((x.toUInt32 >>> ((1 : Int32).toUInt32 &&& Int32.toUInt32 31)).toInt32 &&& (1431655765 : Int32))) &&& (858993459 : Int32)) + (((x - ((x.toUInt32 >>> ((1 : Int32).toUInt32 &&& Int32.toUInt32 31)).toInt32 &&& (1431655765 : Int32))).toUInt32 >>> ((2 : Int32).toUInt32 &&& Int32.toUInt32 31)).toInt32 &&& (858993459 : Int32))).toUInt32 >>> ((4 : Int32).toUInt32 &&& Int32.toUInt32 31)).toInt32) &&& (252645135 : Int32)).toUInt32 >>> ((8 : Int32).toUInt32 &&& Int32.toUInt32 31)).toInt32) + (((((((x - ((x.toUInt32 >>> ((1 : Int32).toUInt32 &&& Int32.toUInt32 31)).toInt32 &&& (1431655765 : Int32))) &&& (858993459 : Int32)) + (((x - ((x.toUInt32 >>> ((1 : Int32).toUInt32 &&& Int32.toUInt32 31)).toInt32 &&& (1431655765 : Int32))).toUInt32 >>> ((2 : Int32).toUInt32 &&& Int32.toUInt32 31)).toInt32 &&& (858993459 : Int32))) + ((((x - ((x.toUInt32 >>> ((1 : Int32).toUInt32 &&& Int32.toUInt32 31)).toInt32 &&& (1431655765 : Int32))) &&& (858993459 : Int32)) + (((x - ((x.toUInt32 >>> ((1 : Int32).toUInt32 &&& Int32.toUInt32 31)).toInt32 &&& (1431655765 : Int32))).toUInt32 >>> ((2 : Int32).toUInt32 &&& Int32.toUInt32 31)).toInt32 &&& (858993459 : Int32))).toUInt32 >>> ((4 : Int32).toUInt32 &&& Int32.toUInt32 31)).toInt32) &&& (252645135 : Int32)) + ((((((x - ((x.toUInt32 >>> ((1 : Int32).toUInt32 &&& Int32.toUInt32 31)).toInt32 &&& (1431655765 : Int32))) &&& (858993459 : Int32)) + (((x - ((x.toUInt32 >>> ((1 : Int32).toUInt32 &&& Int32.toUInt32 31)).toInt32 &&& (1431655765 : Int32))).toUInt32 >>> ((2 : Int32).toUInt32 &&& Int32.toUInt32 31)).toInt32 &&& (858993459 : Int32))) + ((((x - ((x.toUInt32 >>> ((1 : Int32).toUInt32 &&& Int32.toUInt32 31)).toInt32 &&& (1431655765 : Int32))) &&& (858993459 : Int32)) + (((x - ((x.toUInt32 >>> ((1 : Int32).toUInt32 &&& Int32.toUInt32 31)).toInt32 &&& (1431655765 : Int32))).toUInt32 >>> ((2 : Int32).toUInt32 &&& Int32.toUInt32 31)).toInt32 &&& (858993459 : Int32))).toUInt32 >>> ((4 : Int32).toUInt32 &&& Int32.toUInt32 31)).toInt32) &&& (252645135 : Int32)).toUInt32 >>> ((8 : Int32).toUInt32 &&& Int32.toUInt32 31)).toInt32).toUInt32 >>> ((16 : Int32).toUInt32 &&& Int32.toUInt32 31)).toInt32))]) hx hb dJ6_bitCount_0f7a4_47 rfl hl (by decide) rfl (fun ls hl => ?_)
  refine lv_iload_n hx hb dJ6_bitCount_0f7a4_48 rfl (lv_at hl 0 rfl) ?_
  refine lv_bipush (v := 63) hx hb dJ6_bitCount_0f7a4_49 (by decide) ?_
  refine lv_iand hx hb dJ6_bitCount_0f7a4_51 ?_
  rw [← hQQ]; exact W.iret hx hb hr (ct_end (F := (f_J6_bitCount_0f7a4 x)) (u := ((((((((x - ((x.toUInt32 >>> ((1 : Int32).toUInt32 &&& Int32.toUInt32 31)).toInt32 &&& (1431655765 : Int32))) &&& (858993459 : Int32)) + (((x - ((x.toUInt32 >>> ((1 : Int32).toUInt32 &&& Int32.toUInt32 31)).toInt32 &&& (1431655765 : Int32))).toUInt32 >>> ((2 : Int32).toUInt32 &&& Int32.toUInt32 31)).toInt32 &&& (858993459 : Int32))) + ((((x - ((x.toUInt32 >>> ((1 : Int32).toUInt32 &&& Int32.toUInt32 31)).toInt32 &&& (1431655765 : Int32))) &&& (858993459 : Int32)) + (((x - ((x.toUInt32 >>> ((1 : Int32).toUInt32 &&& Int32.toUInt32 31)).toInt32 &&& (1431655765 : Int32))).toUInt32 >>> ((2 : Int32).toUInt32 &&& Int32.toUInt32 31)).toInt32 &&& (858993459 : Int32))).toUInt32 >>> ((4 : Int32).toUInt32 &&& Int32.toUInt32 31)).toInt32) &&& (252645135 : Int32)) + ((((((x - ((x.toUInt32 >>> ((1 : Int32).toUInt32 &&& Int32.toUInt32 31)).toInt32 &&& (1431655765 : Int32))) &&& (858993459 : Int32)) + (((x - ((x.toUInt32 >>> ((1 : Int32).toUInt32 &&& Int32.toUInt32 31)).toInt32 &&& (1431655765 : Int32))).toUInt32 >>> ((2 : Int32).toUInt32 &&& Int32.toUInt32 31)).toInt32 &&& (858993459 : Int32))) + ((((x - ((x.toUInt32 >>> ((1 : Int32).toUInt32 &&& Int32.toUInt32 31)).toInt32 &&& (1431655765 : Int32))) &&& (858993459 : Int32)) + (((x - ((x.toUInt32 >>> ((1 : Int32).toUInt32 &&& Int32.toUInt32 31)).toInt32 &&& (1431655765 : Int32))).toUInt32 >>> ((2 : Int32).toUInt32 &&& Int32.toUInt32 31)).toInt32 &&& (858993459 : Int32))).toUInt32 >>> ((4 : Int32).toUInt32 &&& Int32.toUInt32 31)).toInt32) &&& (252645135 : Int32)).toUInt32 >>> ((8 : Int32).toUInt32 &&& Int32.toUInt32 31)).toInt32) + (((((((x - ((x.toUInt32 >>> ((1 : Int32).toUInt32 &&& Int32.toUInt32 31)).toInt32 &&& (1431655765 : Int32))) &&& (858993459 : Int32)) + (((x - ((x.toUInt32 >>> ((1 : Int32).toUInt32 &&& Int32.toUInt32 31)).toInt32 &&& (1431655765 : Int32))).toUInt32 >>> ((2 : Int32).toUInt32 &&& Int32.toUInt32 31)).toInt32 &&& (858993459 : Int32))) + ((((x - ((x.toUInt32 >>> ((1 : Int32).toUInt32 &&& Int32.toUInt32 31)).toInt32 &&& (1431655765 : Int32))) &&& (858993459 : Int32)) + (((x - ((x.toUInt32 >>> ((1 : Int32).toUInt32 &&& Int32.toUInt32 31)).toInt32 &&& (1431655765 : Int32))).toUInt32 >>> ((2 : Int32).toUInt32 &&& Int32.toUInt32 31)).toInt32 &&& (858993459 : Int32))).toUInt32 >>> ((4 : Int32).toUInt32 &&& Int32.toUInt32 31)).toInt32) &&& (252645135 : Int32)) + ((((((x - ((x.toUInt32 >>> ((1 : Int32).toUInt32 &&& Int32.toUInt32 31)).toInt32 &&& (1431655765 : Int32))) &&& (858993459 : Int32)) + (((x - ((x.toUInt32 >>> ((1 : Int32).toUInt32 &&& Int32.toUInt32 31)).toInt32 &&& (1431655765 : Int32))).toUInt32 >>> ((2 : Int32).toUInt32 &&& Int32.toUInt32 31)).toInt32 &&& (858993459 : Int32))) + ((((x - ((x.toUInt32 >>> ((1 : Int32).toUInt32 &&& Int32.toUInt32 31)).toInt32 &&& (1431655765 : Int32))) &&& (858993459 : Int32)) + (((x - ((x.toUInt32 >>> ((1 : Int32).toUInt32 &&& Int32.toUInt32 31)).toInt32 &&& (1431655765 : Int32))).toUInt32 >>> ((2 : Int32).toUInt32 &&& Int32.toUInt32 31)).toInt32 &&& (858993459 : Int32))).toUInt32 >>> ((4 : Int32).toUInt32 &&& Int32.toUInt32 31)).toInt32) &&& (252645135 : Int32)).toUInt32 >>> ((8 : Int32).toUInt32 &&& Int32.toUInt32 31)).toInt32).toUInt32 >>> ((16 : Int32).toUInt32 &&& Int32.toUInt32 31)).toInt32) &&& (63 : Int32))) (rf := (fun u => some (.int u))) (wf := (fun _ => [].flatten)) rfl rfl hP hD hS) hS.2.2 dJ6_bitCount_0f7a4_52
set_option maxRecDepth 100000 in
set_option maxHeartbeats 4000000 in
theorem k_X4_pullOf (l : Launch) (G : va_G) (cI cS cL : ClassId) (q : Nat → Nat) (beams : Nat → Int32) (speeds : Nat → Int32) (phases : Nat → Int32) (springs : Nat → Int32) (strikes : Nat → Int32) (ways : Nat → Int32) (kickSums : Nat → Int32) (nearTicks : Nat → Int32) (gives : Nat → Int32) (settings : Nat → Int32) (ticks : Int32) (kicks : Int32) (strikeTicks : Int32) (pulls : Nat → Int32) (leaders : Nat → Int32) (k : Nat) (hk : k < 8) : Ct l G (tyl cI cS cL) yX4_pullOf cX4_pullOf 5 (some (Jvm.ClassFile.FieldType.int)) 1 23 0 0 [.ref (q 0), .int (nI k)] [stC q cI beams speeds phases springs strikes ways kickSums nearTicks gives settings ticks kicks strikeTicks pulls leaders].flatten (f_X4_pullOf beams phases springs gives settings k) (fun u => some (.int u)) (fun _ => [stC q cI beams speeds phases springs strikes ways kickSums nearTicks gives settings ticks kicks strikeTicks pulls leaders].flatten) := by
  refine Ct.of (by decide +kernel) (Nat.le_of_ble_eq_true rfl) ?_
  intro p e s m args below meth c A ls hx hb hr hml hw hown hlocks hin hK hN hP hD hS hA hl
  have hown : s.vm.findClass RX4 = some m.cls := hown
  have X : Cx p s m args c cX4_pullOf 5 RX4 G (tyl cI cS cL) := ⟨hx, hb, hml, hown, hw, hK, hN⟩
  have hP : va_P G classes [stC q cI beams speeds phases springs strikes ways kickSums nearTicks gives settings ticks kicks strikeTicks pulls leaders].flatten s.heap := hP
  have hl : lv_has ls 5 [(0, .ref (q 0)), (1, .int (nI k))] := hl
  generalize hQQ : MQ below _ args s 0 0 A = QQ
  refine lv_aload_n hx hb dX4_pullOf_0 rfl (lv_at hl 0 rfl) ?_
  refine va_get (D := G) (ci := 2) (C := RX4) (T := TX4) (N := 15) hx hb hw in_X4 hown hK hP 0 rfl rfl 0 (by decide) (hw _ aw_66) (fun _ h9 => h9) rfl dX4_pullOf_1 ?_
  refine lv_iload_n hx hb dX4_pullOf_4 rfl (lv_at hl 1 rfl) ?_
  refine nv_iald hx hb hK hP 1 0 rfl rfl k (by omega) (by decide) dX4_pullOf_5 ?_
  refine lv_istore_n (lv' := [(2, .int (beams k)), (0, .ref (q 0)), (1, .int (nI k))]) hx hb dX4_pullOf_6 rfl hl (by decide) rfl (fun ls hl => ?_)
  refine lv_aload_n hx hb dX4_pullOf_7 rfl (lv_at hl 1 rfl) ?_
  refine lv_iload_n hx hb dX4_pullOf_8 rfl (lv_at hl 2 rfl) ?_
  refine ct_callV (As := [.int (nI k)]) (rest := []) X hP hD hS hA (k_X4_goes l G cI cS cL q beams speeds phases springs strikes ways kickSums nearTicks gives settings ticks kicks strikeTicks pulls leaders k (by omega)) cp_X4_goes aw_292 ⟨Nat.le_of_ble_eq_true rfl, Nat.le_of_ble_eq_true rfl⟩ [0] (cs := [stC q cI beams speeds phases springs strikes ways kickSums nearTicks gives settings ticks kicks strikeTicks pulls leaders]) rfl (by decide) (cs' := [stC q cI beams speeds phases springs strikes ways kickSums nearTicks gives settings ticks kicks strikeTicks pulls leaders]) rfl rfl 2 rfl rfl (q0 := 0) rfl rfl hl.1 rfl (Nat.le_of_ble_eq_true rfl) dX4_pullOf_9 ⟨Nat.zero_le _, Nat.zero_le _⟩ rfl (bs' := [stC q cI beams speeds phases springs strikes ways kickSums nearTicks gives settings ticks kicks strikeTicks pulls leaders]) rfl (fun H locs hP hD hS => ?_)
  refine bv_ifeq hx hb (f_X4_goes springs k) 22 dX4_pullOf_12 (by decide) (fun c_1 => ?_) (fun c_1 => ?_)
  · refine lv_iconst (v := 0) hx hb dX4_pullOf_22 (by decide) ?_
    rw [← hQQ]; exact W.iret hx hb hr (ct_end (F := (f_X4_pullOf beams phases springs gives settings k)) (u := (0 : Int32)) (rf := (fun u => some (.int u))) (wf := (fun _ => [stC q cI beams speeds phases springs strikes ways kickSums nearTicks gives settings ticks kicks strikeTicks pulls leaders].flatten)) (by first | (unfold f_X4_pullOf; rw [if_neg c_1]; first | done | rfl) | (unfold f_X4_pullOf; simp only [if_neg c_1])) rfl hP hD hS) hS.2.2 dX4_pullOf_23
  · refine lv_iload_n hx hb dX4_pullOf_15 rfl (lv_at hl 0 rfl) ?_
    refine ct_callSN (As := [.int (beams k)]) (rest := []) X hP hD hS hA (k_X5_isBeam l G cI cS cL  (beams k)) cq_X5_isBeam nw_377 ⟨Nat.le_of_ble_eq_true rfl, Nat.le_of_ble_eq_true rfl⟩ ([] : List Nat) (cs := []) rfl (by decide) (cs' := []) rfl rfl rfl hl.1 rfl (Nat.le_of_ble_eq_true rfl) dX4_pullOf_16 ⟨Nat.zero_le _, Nat.zero_le _⟩ rfl (bs' := [stC q cI beams speeds phases springs strikes ways kickSums nearTicks gives settings ticks kicks strikeTicks pulls leaders]) rfl (fun H locs hP hD hS => ?_)
    refine bv_ifne hx hb (f_X5_isBeam (beams k)) 24 dX4_pullOf_19 (by decide) (fun c_3 => ?_) (fun c_3 => ?_)
    · refine lv_iconst (v := 0) hx hb dX4_pullOf_24 (by decide) ?_
      refine lv_istore_n (lv' := [(3, .int (0 : Int32)), (2, .int (beams k)), (0, .ref (q 0)), (1, .int (nI k))]) hx hb dX4_pullOf_25 rfl hl (by decide) rfl (fun ls hl => ?_)
      refine lv_iconst (v := 0) hx hb dX4_pullOf_26 (by decide) ?_
      refine lv_istore (lv' := [(4, .int (0 : Int32)), (3, .int (0 : Int32)), (2, .int (beams k)), (0, .ref (q 0)), (1, .int (nI k))]) hx hb dX4_pullOf_27 hl (by decide) rfl (fun ls hl => ?_)
      refine it_loop (f := (L_X4_pullOf_29 beams phases springs gives k)) 8 (fun (i29 : Nat) (s29 : Int32) => ∀ (ls : Array Slot) (H : Heap) (locs : List Loc), lv_has ls 5 [(4, .int (nI i29)), (3, .int s29), (2, .int (beams k)), (0, .ref (q 0)), (1, .int (nI k))] → va_P G classes [stC q cI beams speeds phases springs strikes ways kickSums nearTicks gives settings ticks kicks strikeTicks pulls leaders].flatten H → va_D A [stC q cI beams speeds phases springs strikes ways kickSums nearTicks gives settings ticks kicks strikeTicks pulls leaders].flatten → va_S A s.heap H locs → W p l e ({ frames := 1, cells := 0, slots := 0, locals := 23 } : Room) s m args below meth c H locs 0 0 QQ (F0 m 29 ls [])) (fun i29 s29 hi29 ih => ?_) 8 0 (0 : Int32) (by omega) ?_ ls _ _ (lv_sub hl [0, 1, 2, 3, 4] rfl) hP hD hS
      · intro ls H locs hl hP hD hS
        refine lv_iload hx hb dX4_pullOf_29 (lv_at hl 0 rfl) ?_
        refine lv_bipush (v := 8) hx hb dX4_pullOf_31 (by decide) ?_
        refine nv_ge hx hb i29 8 88 (by omega) (by omega) dX4_pullOf_33 (by decide) (fun hc => absurd hc (by omega)) (fun _ => ?_)
        refine lv_iload hx hb dX4_pullOf_36 (lv_at hl 0 rfl) ?_
        refine lv_iload_n hx hb dX4_pullOf_38 rfl (lv_at hl 4 rfl) ?_
        have hM_20 : ∀ (v_19 : Int32) (ls : Array Slot) (H : Heap) (locs : List Loc), v_19 = (if i29 = k then s29 else (if (f_X4_goes springs i29) = true then (if (f_X4_hangsOn beams i29 (beams k)) = true then (s29 + (((f_X4_gapFrom phases k i29) * (gives (beams k).toNatClampNeg)) / (200 : Int32))) else s29) else s29)) → lv_has ls 5 [(4, .int (nI i29)), (3, .int v_19), (2, .int (beams k)), (0, .ref (q 0)), (1, .int (nI k))] → va_P G classes [stC q cI beams speeds phases springs strikes ways kickSums nearTicks gives settings ticks kicks strikeTicks pulls leaders].flatten H → va_D A [stC q cI beams speeds phases springs strikes ways kickSums nearTicks gives settings ticks kicks strikeTicks pulls leaders].flatten → va_S A s.heap H locs → W p l e ({ frames := 1, cells := 0, slots := 0, locals := 23 } : Room) s m args below meth c H locs 0 0 QQ (F0 m 82 ls []) := by
          intro v_19 ls H locs e_v_19 hl hP hD hS
          subst e_v_19
          refine nv_iinc (k := 0) (lv' := [(4, .int (nI (i29 + 1))), (3, .int (if i29 = k then s29 else (if (f_X4_goes springs i29) = true then (if (f_X4_hangsOn beams i29 (beams k)) = true then (s29 + (((f_X4_gapFrom phases k i29) * (gives (beams k).toNatClampNeg)) / (200 : Int32))) else s29) else s29))), (2, .int (beams k)), (0, .ref (q 0)), (1, .int (nI k))]) hx hb i29 dX4_pullOf_82 hl rfl (by decide) rfl (fun ls hl => ?_)
          refine lv_goto (tgt := 29) hx hb dX4_pullOf_85 (by decide) ?_
          exact ih _ _ _ (lv_sub hl [0, 1, 2, 3, 4] rfl) hP hD hS
        refine nv_eq hx hb i29 k 82 (by omega) (by omega) dX4_pullOf_39 (by decide) (fun c_6 => ?_) (fun c_6 => ?_)
        · exact hM_20 s29 _ _ _ (if_pos c_6).symm (lv_sub hl [0, 1, 2, 3, 4] rfl) hP hD hS
        · refine lv_aload_n hx hb dX4_pullOf_42 rfl (lv_at hl 3 rfl) ?_
          refine lv_iload hx hb dX4_pullOf_43 (lv_at hl 0 rfl) ?_
          refine ct_callV (As := [.int (nI i29)]) (rest := []) X hP hD hS hA (k_X4_goes l G cI cS cL q beams speeds phases springs strikes ways kickSums nearTicks gives settings ticks kicks strikeTicks pulls leaders i29 (by omega)) cp_X4_goes aw_292 ⟨Nat.le_of_ble_eq_true rfl, Nat.le_of_ble_eq_true rfl⟩ [0] (cs := [stC q cI beams speeds phases springs strikes ways kickSums nearTicks gives settings ticks kicks strikeTicks pulls leaders]) rfl (by decide) (cs' := [stC q cI beams speeds phases springs strikes ways kickSums nearTicks gives settings ticks kicks strikeTicks pulls leaders]) rfl rfl 2 rfl rfl (q0 := 0) rfl rfl hl.1 rfl (Nat.le_of_ble_eq_true rfl) dX4_pullOf_45 ⟨Nat.zero_le _, Nat.zero_le _⟩ rfl (bs' := [stC q cI beams speeds phases springs strikes ways kickSums nearTicks gives settings ticks kicks strikeTicks pulls leaders]) rfl (fun H locs hP hD hS => ?_)
          have hM_17 : ∀ (v_16 : Int32) (ls : Array Slot) (H : Heap) (locs : List Loc), v_16 = (if (f_X4_goes springs i29) = true then (if (f_X4_hangsOn beams i29 (beams k)) = true then (s29 + (((f_X4_gapFrom phases k i29) * (gives (beams k).toNatClampNeg)) / (200 : Int32))) else s29) else s29) → lv_has ls 5 [(3, .int v_16), (4, .int (nI i29)), (2, .int (beams k)), (0, .ref (q 0)), (1, .int (nI k))] → va_P G classes [stC q cI beams speeds phases springs strikes ways kickSums nearTicks gives settings ticks kicks strikeTicks pulls leaders].flatten H → va_D A [stC q cI beams speeds phases springs strikes ways kickSums nearTicks gives settings ticks kicks strikeTicks pulls leaders].flatten → va_S A s.heap H locs → W p l e ({ frames := 1, cells := 0, slots := 0, locals := 23 } : Room) s m args below meth c H locs 0 0 QQ (F0 m 82 ls []) := by
            intro v_16 ls H locs e_v_16 hl hP hD hS
            subst e_v_16
            exact hM_20 (if (f_X4_goes springs i29) = true then (if (f_X4_hangsOn beams i29 (beams k)) = true then (s29 + (((f_X4_gapFrom phases k i29) * (gives (beams k).toNatClampNeg)) / (200 : Int32))) else s29) else s29) _ _ _ (if_neg c_6).symm (lv_sub hl [1, 0, 2, 3, 4] rfl) hP hD hS
          refine bv_ifeq hx hb (f_X4_goes springs i29) 82 dX4_pullOf_48 (by decide) (fun c_8 => ?_) (fun c_8 => ?_)
          · exact hM_17 s29 _ _ _ (if_neg c_8).symm (lv_sub hl [1, 0, 2, 3, 4] rfl) hP hD hS
          · refine lv_aload_n hx hb dX4_pullOf_51 rfl (lv_at hl 3 rfl) ?_
            refine lv_iload hx hb dX4_pullOf_52 (lv_at hl 0 rfl) ?_
            refine lv_iload_n hx hb dX4_pullOf_54 rfl (lv_at hl 2 rfl) ?_
            refine ct_callV (As := [.int (nI i29), .int (beams k)]) (rest := []) X hP hD hS hA (k_X4_hangsOn l G cI cS cL q beams speeds phases springs strikes ways kickSums nearTicks gives settings ticks kicks strikeTicks pulls leaders i29 (beams k) (by omega)) cp_X4_hangsOn aw_380 ⟨Nat.le_of_ble_eq_true rfl, Nat.le_of_ble_eq_true rfl⟩ [0] (cs := [stC q cI beams speeds phases springs strikes ways kickSums nearTicks gives settings ticks kicks strikeTicks pulls leaders]) rfl (by decide) (cs' := [stC q cI beams speeds phases springs strikes ways kickSums nearTicks gives settings ticks kicks strikeTicks pulls leaders]) rfl rfl 2 rfl rfl (q0 := 0) rfl rfl hl.1 rfl (Nat.le_of_ble_eq_true rfl) dX4_pullOf_55 ⟨Nat.zero_le _, Nat.zero_le _⟩ rfl (bs' := [stC q cI beams speeds phases springs strikes ways kickSums nearTicks gives settings ticks kicks strikeTicks pulls leaders]) rfl (fun H locs hP hD hS => ?_)
            have hM_14 : ∀ (v_13 : Int32) (ls : Array Slot) (H : Heap) (locs : List Loc), v_13 = (if (f_X4_hangsOn beams i29 (beams k)) = true then (s29 + (((f_X4_gapFrom phases k i29) * (gives (beams k).toNatClampNeg)) / (200 : Int32))) else s29) → lv_has ls 5 [(3, .int v_13), (4, .int (nI i29)), (2, .int (beams k)), (0, .ref (q 0)), (1, .int (nI k))] → va_P G classes [stC q cI beams speeds phases springs strikes ways kickSums nearTicks gives settings ticks kicks strikeTicks pulls leaders].flatten H → va_D A [stC q cI beams speeds phases springs strikes ways kickSums nearTicks gives settings ticks kicks strikeTicks pulls leaders].flatten → va_S A s.heap H locs → W p l e ({ frames := 1, cells := 0, slots := 0, locals := 23 } : Room) s m args below meth c H locs 0 0 QQ (F0 m 82 ls []) := by
              intro v_13 ls H locs e_v_13 hl hP hD hS
              subst e_v_13
              exact hM_17 (if (f_X4_hangsOn beams i29 (beams k)) = true then (s29 + (((f_X4_gapFrom phases k i29) * (gives (beams k).toNatClampNeg)) / (200 : Int32))) else s29) _ _ _ (if_pos c_8).symm (lv_sub hl [0, 1, 2, 3, 4] rfl) hP hD hS
            refine bv_ifeq hx hb (f_X4_hangsOn beams i29 (beams k)) 82 dX4_pullOf_58 (by decide) (fun c_10 => ?_) (fun c_10 => ?_)
            · exact hM_14 s29 _ _ _ (if_neg c_10).symm (lv_sub hl [1, 0, 2, 3, 4] rfl) hP hD hS
            · refine lv_iload_n hx hb dX4_pullOf_61 rfl (lv_at hl 1 rfl) ?_
              refine lv_aload_n hx hb dX4_pullOf_62 rfl (lv_at hl 3 rfl) ?_
              refine lv_iload_n hx hb dX4_pullOf_63 rfl (lv_at hl 4 rfl) ?_
              refine lv_iload hx hb dX4_pullOf_64 (lv_at hl 0 rfl) ?_
              refine ct_callV (As := [.int (nI k), .int (nI i29)]) (rest := [.int s29]) X hP hD hS hA (k_X4_gapFrom l G cI cS cL q beams speeds phases springs strikes ways kickSums nearTicks gives settings ticks kicks strikeTicks pulls leaders k i29 (by omega) (by omega)) cp_X4_gapFrom aw_384 ⟨Nat.le_of_ble_eq_true rfl, Nat.le_of_ble_eq_true rfl⟩ [0] (cs := [stC q cI beams speeds phases springs strikes ways kickSums nearTicks gives settings ticks kicks strikeTicks pulls leaders]) rfl (by decide) (cs' := [stC q cI beams speeds phases springs strikes ways kickSums nearTicks gives settings ticks kicks strikeTicks pulls leaders]) rfl rfl 2 rfl rfl (q0 := 0) rfl rfl hl.1 rfl (Nat.le_of_ble_eq_true rfl) dX4_pullOf_66 ⟨Nat.zero_le _, Nat.zero_le _⟩ rfl (bs' := [stC q cI beams speeds phases springs strikes ways kickSums nearTicks gives settings ticks kicks strikeTicks pulls leaders]) rfl (fun H locs hP hD hS => ?_)
              refine lv_aload_n hx hb dX4_pullOf_69 rfl (lv_at hl 3 rfl) ?_
              refine va_get (D := G) (ci := 2) (C := RX4) (T := TX4) (N := 15) hx hb hw in_X4 hown hK hP 0 rfl rfl 8 (by decide) (hw _ aw_78) (fun _ h9 => h9) rfl dX4_pullOf_70 ?_
              refine lv_iload_n hx hb dX4_pullOf_73 rfl (lv_at hl 2 rfl) ?_
              refine va_iald hx hb hK hP 9 0 rfl rfl (by exact vp_isBeam (by assumption)) dX4_pullOf_74 ?_
              refine lv_imul hx hb dX4_pullOf_75 ?_
              refine lv_sipush (v := 200) hx hb dX4_pullOf_76 (by decide) ?_
              refine lv_idiv hx hb dX4_pullOf_79 (by first | decide | assumption) ?_
              refine lv_iadd hx hb dX4_pullOf_80 ?_
              refine lv_istore_n (lv' := [(3, .int (s29 + (((f_X4_gapFrom phases k i29) * (gives (beams k).toNatClampNeg)) / (200 : Int32)))), (4, .int (nI i29)), (2, .int (beams k)), (0, .ref (q 0)), (1, .int (nI k))]) hx hb dX4_pullOf_81 rfl hl (by decide) rfl (fun ls hl => ?_)
              exact hM_14 (s29 + (((f_X4_gapFrom phases k i29) * (gives (beams k).toNatClampNeg)) / (200 : Int32))) _ _ _ (if_pos c_10).symm (lv_sub hl [0, 1, 2, 3, 4] rfl) hP hD hS
      · intro ls H locs hl hP hD hS
        refine lv_iload hx hb dX4_pullOf_29 (lv_at hl 0 rfl) ?_
        refine lv_bipush (v := 8) hx hb dX4_pullOf_31 (by decide) ?_
        refine nv_ge hx hb 8 8 88 (by omega) (by omega) dX4_pullOf_33 (by decide) (fun _ => ?_) (fun hc => absurd hc (by omega))
        refine lv_aload_n hx hb dX4_pullOf_88 rfl (lv_at hl 3 rfl) ?_
        refine va_get (D := G) (ci := 2) (C := RX4) (T := TX4) (N := 15) hx hb hw in_X4 hown hK hP 0 rfl rfl 9 (by decide) (hw _ aw_80) (fun _ h9 => h9) rfl dX4_pullOf_89 ?_
        refine lv_iconst (v := 0) hx hb dX4_pullOf_92 (by decide) ?_
        refine nv_iald hx hb hK hP 10 0 rfl rfl 0 (by omega) (by decide) dX4_pullOf_93 ?_
        refine lv_istore (lv' := [(4, .int (settings 0)), (3, .int (it (L_X4_pullOf_29 beams phases springs gives k) 0 8 (0 : Int32))), (2, .int (beams k)), (0, .ref (q 0)), (1, .int (nI k))]) hx hb dX4_pullOf_94 hl (by decide) rfl (fun ls hl => ?_)
        refine lv_iload hx hb dX4_pullOf_96 (lv_at hl 0 rfl) ?_
        refine lv_ineg hx hb dX4_pullOf_98 ?_
        refine lv_iload hx hb dX4_pullOf_99 (lv_at hl 0 rfl) ?_
        refine lv_iload_n hx hb dX4_pullOf_101 rfl (lv_at hl 1 rfl) ?_
        refine va_mmin hx hb (hml.trans hl.1.symm) hown (hw _ aw_388) (hw _ aw_389) (hw _ aw_43) (hw _ aw_390) (Nat.le_of_ble_eq_true rfl) (Nat.le_of_ble_eq_true rfl) (Nat.zero_le _) (Nat.zero_le _) dX4_pullOf_102 ?_
        refine va_mmax hx hb (hml.trans hl.1.symm) hown (hw _ aw_337) (hw _ aw_338) (hw _ aw_43) (hw _ aw_339) (Nat.le_of_ble_eq_true rfl) (Nat.le_of_ble_eq_true rfl) (Nat.zero_le _) (Nat.zero_le _) dX4_pullOf_105 ?_
        rw [← hQQ]; exact W.iret hx hb hr (ct_end (F := (f_X4_pullOf beams phases springs gives settings k)) (u := (if (-(settings 0)) < (if (it (L_X4_pullOf_29 beams phases springs gives k) 0 8 (0 : Int32)) < (settings 0) then (it (L_X4_pullOf_29 beams phases springs gives k) 0 8 (0 : Int32)) else (settings 0)) then (if (it (L_X4_pullOf_29 beams phases springs gives k) 0 8 (0 : Int32)) < (settings 0) then (it (L_X4_pullOf_29 beams phases springs gives k) 0 8 (0 : Int32)) else (settings 0)) else (-(settings 0)))) (rf := (fun u => some (.int u))) (wf := (fun _ => [stC q cI beams speeds phases springs strikes ways kickSums nearTicks gives settings ticks kicks strikeTicks pulls leaders].flatten)) (by first | (unfold f_X4_pullOf; rw [if_pos c_1, if_pos c_3]; first | done | rfl) | (unfold f_X4_pullOf; simp only [if_pos c_1, if_pos c_3])) rfl hP hD hS) hS.2.2 dX4_pullOf_108
    · refine lv_iconst (v := 0) hx hb dX4_pullOf_22 (by decide) ?_
      rw [← hQQ]; exact W.iret hx hb hr (ct_end (F := (f_X4_pullOf beams phases springs gives settings k)) (u := (0 : Int32)) (rf := (fun u => some (.int u))) (wf := (fun _ => [stC q cI beams speeds phases springs strikes ways kickSums nearTicks gives settings ticks kicks strikeTicks pulls leaders].flatten)) (by first | (unfold f_X4_pullOf; rw [if_pos c_1, if_neg c_3]; first | done | rfl) | (unfold f_X4_pullOf; simp only [if_pos c_1, if_neg c_3])) rfl hP hD hS) hS.2.2 dX4_pullOf_23
set_option maxRecDepth 100000 in
set_option maxHeartbeats 4000000 in
theorem k_X4_tick (l : Launch) (G : va_G) (cI cS cL : ClassId) (q : Nat → Nat) (beams : Nat → Int32) (speeds : Nat → Int32) (phases : Nat → Int32) (springs : Nat → Int32) (strikes : Nat → Int32) (ways : Nat → Int32) (kickSums : Nat → Int32) (nearTicks : Nat → Int32) (gives : Nat → Int32) (settings : Nat → Int32) (ticks : Int32) (kicks : Int32) (strikeTicks : Int32) (pulls : Nat → Int32) (leaders : Nat → Int32) : Ct l G (tyl cI cS cL) yX4_tick cX4_tick 2 (some (Jvm.ClassFile.FieldType.int)) 3 68 0 0 [.ref (q 0)] [stC q cI beams speeds phases springs strikes ways kickSums nearTicks gives settings ticks kicks strikeTicks pulls leaders].flatten (f_X4_tick beams speeds phases springs strikes ways nearTicks gives settings ticks strikeTicks pulls) (fun u => some (.int u.1)) (fun u => [stC q cI beams speeds u.2.1 u.2.2.1 u.2.2.2.1 u.2.2.2.2.1 kickSums u.2.2.2.2.2.1 gives settings u.2.2.2.2.2.2.1 kicks u.2.2.2.2.2.2.2.1 u.2.2.2.2.2.2.2.2 leaders].flatten) := by
  refine Ct.of (by decide +kernel) (Nat.le_of_ble_eq_true rfl) ?_
  intro p e s m args below meth c A ls hx hb hr hml hw hown hlocks hin hK hN hP hD hS hA hl
  have hown : s.vm.findClass RX4 = some m.cls := hown
  have X : Cx p s m args c cX4_tick 2 RX4 G (tyl cI cS cL) := ⟨hx, hb, hml, hown, hw, hK, hN⟩
  have hP : va_P G classes [stC q cI beams speeds phases springs strikes ways kickSums nearTicks gives settings ticks kicks strikeTicks pulls leaders].flatten s.heap := hP
  have hl : lv_has ls 2 [(0, .ref (q 0))] := hl
  generalize hQQ : MQ below _ args s 0 0 A = QQ
  refine lv_iconst (v := 0) hx hb dX4_tick_0 (by decide) ?_
  refine lv_istore_n (lv' := [(1, .int (0 : Int32)), (0, .ref (q 0))]) hx hb dX4_tick_1 rfl hl (by decide) rfl (fun ls hl => ?_)
  refine it_loop (f := (L_X4_tick_2 beams phases springs gives settings)) 8 (fun (i2 : Nat) (s2 : (Nat → Int32)) => ∀ (ls : Array Slot) (H : Heap) (locs : List Loc), lv_has ls 2 [(1, .int (nI i2)), (0, .ref (q 0))] → va_P G classes [stC q cI beams speeds phases springs strikes ways kickSums nearTicks gives settings ticks kicks strikeTicks s2 leaders].flatten H → va_D A [stC q cI beams speeds phases springs strikes ways kickSums nearTicks gives settings ticks kicks strikeTicks s2 leaders].flatten → va_S A s.heap H locs → W p l e ({ frames := 3, cells := 0, slots := 0, locals := 68 } : Room) s m args below meth c H locs 0 0 QQ (F0 m 2 ls [])) (fun i2 s2 hi2 ih => ?_) 8 0 pulls (by omega) ?_ ls _ _ (lv_sub hl [0, 1] rfl) hP hD hS
  · intro ls H locs hl hP hD hS
    refine lv_iload_n hx hb dX4_tick_2 rfl (lv_at hl 0 rfl) ?_
    refine lv_bipush (v := 8) hx hb dX4_tick_3 (by decide) ?_
    refine nv_ge hx hb i2 8 25 (by omega) (by omega) dX4_tick_5 (by decide) (fun hc => absurd hc (by omega)) (fun _ => ?_)
    refine lv_aload_n hx hb dX4_tick_8 rfl (lv_at hl 1 rfl) ?_
    refine va_get (D := G) (ci := 2) (C := RX4) (T := TX4) (N := 15) hx hb hw in_X4 hown hK hP 0 rfl rfl 13 (by decide) (hw _ aw_86) (fun _ h9 => h9) rfl dX4_tick_9 ?_
    refine lv_iload_n hx hb dX4_tick_12 rfl (lv_at hl 0 rfl) ?_
    refine lv_aload_n hx hb dX4_tick_13 rfl (lv_at hl 1 rfl) ?_
    refine lv_iload_n hx hb dX4_tick_14 rfl (lv_at hl 0 rfl) ?_
    refine ct_callV (As := [.int (nI i2)]) (rest := [.int (nI i2), .ref (q 11)]) X hP hD hS hA (k_X4_pullOf l G cI cS cL q beams speeds phases springs strikes ways kickSums nearTicks gives settings ticks kicks strikeTicks s2 leaders i2 (by omega)) cp_X4_pullOf aw_373 ⟨Nat.le_of_ble_eq_true rfl, Nat.le_of_ble_eq_true rfl⟩ [0] (cs := [stC q cI beams speeds phases springs strikes ways kickSums nearTicks gives settings ticks kicks strikeTicks s2 leaders]) rfl (by decide) (cs' := [stC q cI beams speeds phases springs strikes ways kickSums nearTicks gives settings ticks kicks strikeTicks s2 leaders]) rfl rfl 2 rfl rfl (q0 := 0) rfl rfl hl.1 rfl (Nat.le_of_ble_eq_true rfl) dX4_tick_15 ⟨Nat.zero_le _, Nat.zero_le _⟩ rfl (bs' := [stC q cI beams speeds phases springs strikes ways kickSums nearTicks gives settings ticks kicks strikeTicks s2 leaders]) rfl (fun H locs hP hD hS => ?_)
    refine nv_iast hx hb hK hP hD hS 11 0 rfl rfl i2 (by omega) (by decide) dX4_tick_18 (ws' := [stC q cI beams speeds phases springs strikes ways kickSums nearTicks gives settings ticks kicks strikeTicks (upd s2 i2 (f_X4_pullOf beams phases springs gives settings i2)) leaders].flatten) rfl (fun H locs hP hD hS => ?_)
    refine nv_iinc (k := 0) (lv' := [(1, .int (nI (i2 + 1))), (0, .ref (q 0))]) hx hb i2 dX4_tick_19 hl rfl (by decide) rfl (fun ls hl => ?_)
    refine lv_goto (tgt := 2) hx hb dX4_tick_22 (by decide) ?_
    exact ih _ _ _ (lv_sub hl [0, 1] rfl) hP hD hS
  · intro ls H locs hl hP hD hS
    refine lv_iload_n hx hb dX4_tick_2 rfl (lv_at hl 0 rfl) ?_
    refine lv_bipush (v := 8) hx hb dX4_tick_3 (by decide) ?_
    refine nv_ge hx hb 8 8 25 (by omega) (by omega) dX4_tick_5 (by decide) (fun _ => ?_) (fun hc => absurd hc (by omega))
    refine lv_aload_n hx hb dX4_tick_25 rfl (lv_at hl 1 rfl) ?_
    refine ct_callV (As := []) (rest := []) X hP hD hS hA (k_X4_goOn l G cI cS cL q beams speeds phases springs strikes ways kickSums nearTicks gives settings ticks kicks strikeTicks (it (L_X4_tick_2 beams phases springs gives settings) 0 8 pulls) leaders) cp_X4_goOn aw_499 ⟨Nat.le_of_ble_eq_true rfl, Nat.le_of_ble_eq_true rfl⟩ [0] (cs := [stC q cI beams speeds phases springs strikes ways kickSums nearTicks gives settings ticks kicks strikeTicks (it (L_X4_tick_2 beams phases springs gives settings) 0 8 pulls) leaders]) rfl (by decide) (cs' := [stC q cI beams speeds ((f_X4_goOn speeds phases springs strikes ways (it (L_X4_tick_2 beams phases springs gives settings) 0 8 pulls)).2.1) ((f_X4_goOn speeds phases springs strikes ways (it (L_X4_tick_2 beams phases springs gives settings) 0 8 pulls)).2.2.1) ((f_X4_goOn speeds phases springs strikes ways (it (L_X4_tick_2 beams phases springs gives settings) 0 8 pulls)).2.2.2.1) ((f_X4_goOn speeds phases springs strikes ways (it (L_X4_tick_2 beams phases springs gives settings) 0 8 pulls)).2.2.2.2) kickSums nearTicks gives settings ticks kicks strikeTicks (it (L_X4_tick_2 beams phases springs gives settings) 0 8 pulls) leaders]) rfl rfl 2 rfl rfl (q0 := 0) rfl rfl hl.1 rfl (Nat.le_of_ble_eq_true rfl) dX4_tick_26 ⟨Nat.zero_le _, Nat.zero_le _⟩ rfl (bs' := [stC q cI beams speeds ((f_X4_goOn speeds phases springs strikes ways (it (L_X4_tick_2 beams phases springs gives settings) 0 8 pulls)).2.1) ((f_X4_goOn speeds phases springs strikes ways (it (L_X4_tick_2 beams phases springs gives settings) 0 8 pulls)).2.2.1) ((f_X4_goOn speeds phases springs strikes ways (it (L_X4_tick_2 beams phases springs gives settings) 0 8 pulls)).2.2.2.1) ((f_X4_goOn speeds phases springs strikes ways (it (L_X4_tick_2 beams phases springs gives settings) 0 8 pulls)).2.2.2.2) kickSums nearTicks gives settings ticks kicks strikeTicks (it (L_X4_tick_2 beams phases springs gives settings) 0 8 pulls) leaders]) rfl (fun H locs hP hD hS => ?_)
    refine lv_istore_n (lv' := [(1, .int ((f_X4_goOn speeds phases springs strikes ways (it (L_X4_tick_2 beams phases springs gives settings) 0 8 pulls)).1)), (0, .ref (q 0))]) hx hb dX4_tick_29 rfl hl (by decide) rfl (fun ls hl => ?_)
    refine lv_aload_n hx hb dX4_tick_30 rfl (lv_at hl 1 rfl) ?_
    refine ct_callV (As := []) (rest := []) X hP hD hS hA (k_X4_lookAtPairs l G cI cS cL q beams speeds ((f_X4_goOn speeds phases springs strikes ways (it (L_X4_tick_2 beams phases springs gives settings) 0 8 pulls)).2.1) ((f_X4_goOn speeds phases springs strikes ways (it (L_X4_tick_2 beams phases springs gives settings) 0 8 pulls)).2.2.1) ((f_X4_goOn speeds phases springs strikes ways (it (L_X4_tick_2 beams phases springs gives settings) 0 8 pulls)).2.2.2.1) ((f_X4_goOn speeds phases springs strikes ways (it (L_X4_tick_2 beams phases springs gives settings) 0 8 pulls)).2.2.2.2) kickSums nearTicks gives settings ticks kicks strikeTicks (it (L_X4_tick_2 beams phases springs gives settings) 0 8 pulls) leaders) cp_X4_lookAtPairs aw_507 ⟨Nat.le_of_ble_eq_true rfl, Nat.le_of_ble_eq_true rfl⟩ [0] (cs := [stC q cI beams speeds ((f_X4_goOn speeds phases springs strikes ways (it (L_X4_tick_2 beams phases springs gives settings) 0 8 pulls)).2.1) ((f_X4_goOn speeds phases springs strikes ways (it (L_X4_tick_2 beams phases springs gives settings) 0 8 pulls)).2.2.1) ((f_X4_goOn speeds phases springs strikes ways (it (L_X4_tick_2 beams phases springs gives settings) 0 8 pulls)).2.2.2.1) ((f_X4_goOn speeds phases springs strikes ways (it (L_X4_tick_2 beams phases springs gives settings) 0 8 pulls)).2.2.2.2) kickSums nearTicks gives settings ticks kicks strikeTicks (it (L_X4_tick_2 beams phases springs gives settings) 0 8 pulls) leaders]) rfl (by decide) (cs' := [stC q cI beams speeds ((f_X4_goOn speeds phases springs strikes ways (it (L_X4_tick_2 beams phases springs gives settings) 0 8 pulls)).2.1) ((f_X4_goOn speeds phases springs strikes ways (it (L_X4_tick_2 beams phases springs gives settings) 0 8 pulls)).2.2.1) ((f_X4_goOn speeds phases springs strikes ways (it (L_X4_tick_2 beams phases springs gives settings) 0 8 pulls)).2.2.2.1) ((f_X4_goOn speeds phases springs strikes ways (it (L_X4_tick_2 beams phases springs gives settings) 0 8 pulls)).2.2.2.2) kickSums (f_X4_lookAtPairs beams ((f_X4_goOn speeds phases springs strikes ways (it (L_X4_tick_2 beams phases springs gives settings) 0 8 pulls)).2.1) ((f_X4_goOn speeds phases springs strikes ways (it (L_X4_tick_2 beams phases springs gives settings) 0 8 pulls)).2.2.1) nearTicks settings) gives settings ticks kicks strikeTicks (it (L_X4_tick_2 beams phases springs gives settings) 0 8 pulls) leaders]) rfl rfl 2 rfl rfl (q0 := 0) rfl rfl hl.1 rfl (Nat.le_of_ble_eq_true rfl) dX4_tick_31 ⟨Nat.zero_le _, Nat.zero_le _⟩ rfl (bs' := [stC q cI beams speeds ((f_X4_goOn speeds phases springs strikes ways (it (L_X4_tick_2 beams phases springs gives settings) 0 8 pulls)).2.1) ((f_X4_goOn speeds phases springs strikes ways (it (L_X4_tick_2 beams phases springs gives settings) 0 8 pulls)).2.2.1) ((f_X4_goOn speeds phases springs strikes ways (it (L_X4_tick_2 beams phases springs gives settings) 0 8 pulls)).2.2.2.1) ((f_X4_goOn speeds phases springs strikes ways (it (L_X4_tick_2 beams phases springs gives settings) 0 8 pulls)).2.2.2.2) kickSums (f_X4_lookAtPairs beams ((f_X4_goOn speeds phases springs strikes ways (it (L_X4_tick_2 beams phases springs gives settings) 0 8 pulls)).2.1) ((f_X4_goOn speeds phases springs strikes ways (it (L_X4_tick_2 beams phases springs gives settings) 0 8 pulls)).2.2.1) nearTicks settings) gives settings ticks kicks strikeTicks (it (L_X4_tick_2 beams phases springs gives settings) 0 8 pulls) leaders]) rfl (fun H locs hP hD hS => ?_)
    refine lv_aload_n hx hb dX4_tick_34 rfl (lv_at hl 1 rfl) ?_
    refine lv_dup hx hb dX4_tick_35 rfl ?_
    refine va_get (D := G) (ci := 2) (C := RX4) (T := TX4) (N := 15) hx hb hw in_X4 hown hK hP 0 rfl rfl 10 (by decide) (hw _ aw_82) (fun _ h9 => h9) rfl dX4_tick_36 ?_
    refine lv_iconst (v := 1) hx hb dX4_tick_39 (by decide) ?_
    refine lv_iadd hx hb dX4_tick_40 ?_
    refine nv_put (D := G) (ci := 2) (ty := .int) (v := .int (ticks + (1 : Int32))) (C := RX4) (T := TX4) (N := 15) hx hb hw in_X4 tyX4 tyX4_ok nmX4 hown hK hP hD hS 0 rfl rfl 10 (by decide) (hw _ aw_82) (fun _ h9 => h9) rfl (by decide +kernel) rfl rfl (Nat.le_of_ble_eq_true rfl) dX4_tick_41 (ws' := [stC q cI beams speeds ((f_X4_goOn speeds phases springs strikes ways (it (L_X4_tick_2 beams phases springs gives settings) 0 8 pulls)).2.1) ((f_X4_goOn speeds phases springs strikes ways (it (L_X4_tick_2 beams phases springs gives settings) 0 8 pulls)).2.2.1) ((f_X4_goOn speeds phases springs strikes ways (it (L_X4_tick_2 beams phases springs gives settings) 0 8 pulls)).2.2.2.1) ((f_X4_goOn speeds phases springs strikes ways (it (L_X4_tick_2 beams phases springs gives settings) 0 8 pulls)).2.2.2.2) kickSums (f_X4_lookAtPairs beams ((f_X4_goOn speeds phases springs strikes ways (it (L_X4_tick_2 beams phases springs gives settings) 0 8 pulls)).2.1) ((f_X4_goOn speeds phases springs strikes ways (it (L_X4_tick_2 beams phases springs gives settings) 0 8 pulls)).2.2.1) nearTicks settings) gives settings (ticks + (1 : Int32)) kicks strikeTicks (it (L_X4_tick_2 beams phases springs gives settings) 0 8 pulls) leaders].flatten) rfl (fun H locs hP hD hS => ?_)
    refine lv_iload_n hx hb dX4_tick_44 rfl (lv_at hl 0 rfl) ?_
    have hM_11 : ∀ (v_10 : Int32) (ls : Array Slot) (H : Heap) (locs : List Loc), v_10 = (if (f_X4_goOn speeds phases springs strikes ways (it (L_X4_tick_2 beams phases springs gives settings) 0 8 pulls)).1 ≤ 0 then strikeTicks else (strikeTicks + (1 : Int32))) → lv_has ls 2 [(1, .int ((f_X4_goOn speeds phases springs strikes ways (it (L_X4_tick_2 beams phases springs gives settings) 0 8 pulls)).1))] → va_P G classes [stC q cI beams speeds ((f_X4_goOn speeds phases springs strikes ways (it (L_X4_tick_2 beams phases springs gives settings) 0 8 pulls)).2.1) ((f_X4_goOn speeds phases springs strikes ways (it (L_X4_tick_2 beams phases springs gives settings) 0 8 pulls)).2.2.1) ((f_X4_goOn speeds phases springs strikes ways (it (L_X4_tick_2 beams phases springs gives settings) 0 8 pulls)).2.2.2.1) ((f_X4_goOn speeds phases springs strikes ways (it (L_X4_tick_2 beams phases springs gives settings) 0 8 pulls)).2.2.2.2) kickSums (f_X4_lookAtPairs beams ((f_X4_goOn speeds phases springs strikes ways (it (L_X4_tick_2 beams phases springs gives settings) 0 8 pulls)).2.1) ((f_X4_goOn speeds phases springs strikes ways (it (L_X4_tick_2 beams phases springs gives settings) 0 8 pulls)).2.2.1) nearTicks settings) gives settings (ticks + (1 : Int32)) kicks v_10 (it (L_X4_tick_2 beams phases springs gives settings) 0 8 pulls) leaders].flatten H → va_D A [stC q cI beams speeds ((f_X4_goOn speeds phases springs strikes ways (it (L_X4_tick_2 beams phases springs gives settings) 0 8 pulls)).2.1) ((f_X4_goOn speeds phases springs strikes ways (it (L_X4_tick_2 beams phases springs gives settings) 0 8 pulls)).2.2.1) ((f_X4_goOn speeds phases springs strikes ways (it (L_X4_tick_2 beams phases springs gives settings) 0 8 pulls)).2.2.2.1) ((f_X4_goOn speeds phases springs strikes ways (it (L_X4_tick_2 beams phases springs gives settings) 0 8 pulls)).2.2.2.2) kickSums (f_X4_lookAtPairs beams ((f_X4_goOn speeds phases springs strikes ways (it (L_X4_tick_2 beams phases springs gives settings) 0 8 pulls)).2.1) ((f_X4_goOn speeds phases springs strikes ways (it (L_X4_tick_2 beams phases springs gives settings) 0 8 pulls)).2.2.1) nearTicks settings) gives settings (ticks + (1 : Int32)) kicks v_10 (it (L_X4_tick_2 beams phases springs gives settings) 0 8 pulls) leaders].flatten → va_S A s.heap H locs → W p l e ({ frames := 3, cells := 0, slots := 0, locals := 68 } : Room) s m args below meth c H locs 0 0 QQ (F0 m 58 ls []) := by
      intro v_10 ls H locs e_v_10 hl hP hD hS
      subst e_v_10
      refine lv_iload_n hx hb dX4_tick_58 rfl (lv_at hl 0 rfl) ?_
      rw [← hQQ]; exact W.iret hx hb hr (ct_end (F := (f_X4_tick beams speeds phases springs strikes ways nearTicks gives settings ticks strikeTicks pulls)) (u := ((f_X4_goOn speeds phases springs strikes ways (it (L_X4_tick_2 beams phases springs gives settings) 0 8 pulls)).1, (f_X4_goOn speeds phases springs strikes ways (it (L_X4_tick_2 beams phases springs gives settings) 0 8 pulls)).2.1, (f_X4_goOn speeds phases springs strikes ways (it (L_X4_tick_2 beams phases springs gives settings) 0 8 pulls)).2.2.1, (f_X4_goOn speeds phases springs strikes ways (it (L_X4_tick_2 beams phases springs gives settings) 0 8 pulls)).2.2.2.1, (f_X4_goOn speeds phases springs strikes ways (it (L_X4_tick_2 beams phases springs gives settings) 0 8 pulls)).2.2.2.2, (f_X4_lookAtPairs beams ((f_X4_goOn speeds phases springs strikes ways (it (L_X4_tick_2 beams phases springs gives settings) 0 8 pulls)).2.1) ((f_X4_goOn speeds phases springs strikes ways (it (L_X4_tick_2 beams phases springs gives settings) 0 8 pulls)).2.2.1) nearTicks settings), (ticks + (1 : Int32)), (if (f_X4_goOn speeds phases springs strikes ways (it (L_X4_tick_2 beams phases springs gives settings) 0 8 pulls)).1 ≤ 0 then strikeTicks else (strikeTicks + (1 : Int32))), (it (L_X4_tick_2 beams phases springs gives settings) 0 8 pulls))) (rf := (fun u => some (.int u.1))) (wf := (fun u => [stC q cI beams speeds u.2.1 u.2.2.1 u.2.2.2.1 u.2.2.2.2.1 kickSums u.2.2.2.2.2.1 gives settings u.2.2.2.2.2.2.1 kicks u.2.2.2.2.2.2.2.1 u.2.2.2.2.2.2.2.2 leaders].flatten)) rfl rfl hP hD hS) hS.2.2 dX4_tick_59
    refine lv_if_le (tgt := 58) hx hb dX4_tick_45 (by decide) (fun c_7 => ?_) (fun c_7 => ?_)
    · exact hM_11 strikeTicks _ _ _ (if_pos c_7).symm (lv_sub hl [0] rfl) hP hD hS
    · refine lv_aload_n hx hb dX4_tick_48 rfl (lv_at hl 1 rfl) ?_
      refine lv_dup hx hb dX4_tick_49 rfl ?_
      refine va_get (D := G) (ci := 2) (C := RX4) (T := TX4) (N := 15) hx hb hw in_X4 hown hK hP 0 rfl rfl 12 (by decide) (hw _ aw_85) (fun _ h9 => h9) rfl dX4_tick_50 ?_
      refine lv_iconst (v := 1) hx hb dX4_tick_53 (by decide) ?_
      refine lv_iadd hx hb dX4_tick_54 ?_
      refine nv_put (D := G) (ci := 2) (ty := .int) (v := .int (strikeTicks + (1 : Int32))) (C := RX4) (T := TX4) (N := 15) hx hb hw in_X4 tyX4 tyX4_ok nmX4 hown hK hP hD hS 0 rfl rfl 12 (by decide) (hw _ aw_85) (fun _ h9 => h9) rfl (by decide +kernel) rfl rfl (Nat.le_of_ble_eq_true rfl) dX4_tick_55 (ws' := [stC q cI beams speeds ((f_X4_goOn speeds phases springs strikes ways (it (L_X4_tick_2 beams phases springs gives settings) 0 8 pulls)).2.1) ((f_X4_goOn speeds phases springs strikes ways (it (L_X4_tick_2 beams phases springs gives settings) 0 8 pulls)).2.2.1) ((f_X4_goOn speeds phases springs strikes ways (it (L_X4_tick_2 beams phases springs gives settings) 0 8 pulls)).2.2.2.1) ((f_X4_goOn speeds phases springs strikes ways (it (L_X4_tick_2 beams phases springs gives settings) 0 8 pulls)).2.2.2.2) kickSums (f_X4_lookAtPairs beams ((f_X4_goOn speeds phases springs strikes ways (it (L_X4_tick_2 beams phases springs gives settings) 0 8 pulls)).2.1) ((f_X4_goOn speeds phases springs strikes ways (it (L_X4_tick_2 beams phases springs gives settings) 0 8 pulls)).2.2.1) nearTicks settings) gives settings (ticks + (1 : Int32)) kicks (strikeTicks + (1 : Int32)) (it (L_X4_tick_2 beams phases springs gives settings) 0 8 pulls) leaders].flatten) rfl (fun H locs hP hD hS => ?_)
      exact hM_11 (strikeTicks + (1 : Int32)) _ _ _ (if_neg c_7).symm (lv_sub hl [0] rfl) hP hD hS
set_option maxRecDepth 100000 in
set_option maxHeartbeats 4000000 in
theorem k_X4_letPass (l : Launch) (G : va_G) (cI cS cL : ClassId) (q : Nat → Nat) (beams : Nat → Int32) (speeds : Nat → Int32) (phases : Nat → Int32) (springs : Nat → Int32) (strikes : Nat → Int32) (ways : Nat → Int32) (kickSums : Nat → Int32) (nearTicks : Nat → Int32) (gives : Nat → Int32) (settings : Nat → Int32) (ticks : Int32) (kicks : Int32) (strikeTicks : Int32) (pulls : Nat → Int32) (leaders : Nat → Int32) (n : Int32) : Ct l G (tyl cI cS cL) yX4_letPass cX4_letPass 4 (some (Jvm.ClassFile.FieldType.int)) 4 89 0 0 [.ref (q 0), .int n] [stC q cI beams speeds phases springs strikes ways kickSums nearTicks gives settings ticks kicks strikeTicks pulls leaders].flatten (f_X4_letPass beams speeds phases springs strikes ways nearTicks gives settings ticks strikeTicks pulls n) (fun u => some (.int u.1)) (fun u => [stC q cI beams speeds u.2.1 u.2.2.1 u.2.2.2.1 u.2.2.2.2.1 kickSums u.2.2.2.2.2.1 gives settings u.2.2.2.2.2.2.1 kicks u.2.2.2.2.2.2.2.1 u.2.2.2.2.2.2.2.2 leaders].flatten) := by
  refine Ct.of (by decide +kernel) (Nat.le_of_ble_eq_true rfl) ?_
  intro p e s m args below meth c A ls hx hb hr hml hw hown hlocks hin hK hN hP hD hS hA hl
  have hown : s.vm.findClass RX4 = some m.cls := hown
  have X : Cx p s m args c cX4_letPass 4 RX4 G (tyl cI cS cL) := ⟨hx, hb, hml, hown, hw, hK, hN⟩
  have hP : va_P G classes [stC q cI beams speeds phases springs strikes ways kickSums nearTicks gives settings ticks kicks strikeTicks pulls leaders].flatten s.heap := hP
  have hl : lv_has ls 4 [(0, .ref (q 0)), (1, .int n)] := hl
  generalize hQQ : MQ below _ args s 0 0 A = QQ
  refine lv_iconst (v := 0) hx hb dX4_letPass_0 (by decide) ?_
  refine lv_istore_n (lv' := [(2, .int (0 : Int32)), (0, .ref (q 0)), (1, .int n)]) hx hb dX4_letPass_1 rfl hl (by decide) rfl (fun ls hl => ?_)
  refine lv_iconst (v := 0) hx hb dX4_letPass_2 (by decide) ?_
  refine lv_istore_n (lv' := [(3, .int (0 : Int32)), (2, .int (0 : Int32)), (0, .ref (q 0)), (1, .int n)]) hx hb dX4_letPass_3 rfl hl (by decide) rfl (fun ls hl => ?_)
  refine it_loop (f := (L_X4_letPass_4 beams speeds gives settings)) n.toNatClampNeg (fun (i4 : Nat) (s4 : Int32 × (Nat → Int32) × (Nat → Int32) × (Nat → Int32) × (Nat → Int32) × (Nat → Int32) × Int32 × Int32 × (Nat → Int32)) => ∀ (ls : Array Slot) (H : Heap) (locs : List Loc), lv_has ls 4 [(3, .int (nI i4)), (2, .int s4.1), (0, .ref (q 0)), (1, .int n)] → va_P G classes [stC q cI beams speeds s4.2.1 s4.2.2.1 s4.2.2.2.1 s4.2.2.2.2.1 kickSums s4.2.2.2.2.2.1 gives settings s4.2.2.2.2.2.2.1 kicks s4.2.2.2.2.2.2.2.1 s4.2.2.2.2.2.2.2.2 leaders].flatten H → va_D A [stC q cI beams speeds s4.2.1 s4.2.2.1 s4.2.2.2.1 s4.2.2.2.2.1 kickSums s4.2.2.2.2.2.1 gives settings s4.2.2.2.2.2.2.1 kicks s4.2.2.2.2.2.2.2.1 s4.2.2.2.2.2.2.2.2 leaders].flatten → va_S A s.heap H locs → W p l e ({ frames := 4, cells := 0, slots := 0, locals := 89 } : Room) s m args below meth c H locs 0 0 QQ (F0 m 4 ls [])) (fun i4 s4 hi4 ih => ?_) n.toNatClampNeg 0 ((0 : Int32), phases, springs, strikes, ways, nearTicks, ticks, strikeTicks, pulls) (by omega) ?_ ls _ _ (lv_sub hl [0, 1, 2, 3] rfl) hP hD hS
  · intro ls H locs hl hP hD hS
    refine lv_iload_n hx hb dX4_letPass_4 rfl (lv_at hl 0 rfl) ?_
    refine lv_iload_n hx hb dX4_letPass_5 rfl (lv_at hl 3 rfl) ?_
    refine nv_geI hx hb i4 22 (Nat.le_of_lt hi4) dX4_letPass_6 (by decide) (fun hc => absurd hc (Nat.ne_of_lt hi4)) (fun _ => ?_)
    refine lv_iload_n hx hb dX4_letPass_9 rfl (lv_at hl 1 rfl) ?_
    refine lv_aload_n hx hb dX4_letPass_10 rfl (lv_at hl 2 rfl) ?_
    refine ct_callV (As := []) (rest := [.int s4.1]) X hP hD hS hA (k_X4_tick l G cI cS cL q beams speeds s4.2.1 s4.2.2.1 s4.2.2.2.1 s4.2.2.2.2.1 kickSums s4.2.2.2.2.2.1 gives settings s4.2.2.2.2.2.2.1 kicks s4.2.2.2.2.2.2.2.1 s4.2.2.2.2.2.2.2.2 leaders) cp_X4_tick aw_495 ⟨Nat.le_of_ble_eq_true rfl, Nat.le_of_ble_eq_true rfl⟩ [0] (cs := [stC q cI beams speeds s4.2.1 s4.2.2.1 s4.2.2.2.1 s4.2.2.2.2.1 kickSums s4.2.2.2.2.2.1 gives settings s4.2.2.2.2.2.2.1 kicks s4.2.2.2.2.2.2.2.1 s4.2.2.2.2.2.2.2.2 leaders]) rfl (by decide) (cs' := [stC q cI beams speeds ((f_X4_tick beams speeds s4.2.1 s4.2.2.1 s4.2.2.2.1 s4.2.2.2.2.1 s4.2.2.2.2.2.1 gives settings s4.2.2.2.2.2.2.1 s4.2.2.2.2.2.2.2.1 s4.2.2.2.2.2.2.2.2).2.1) ((f_X4_tick beams speeds s4.2.1 s4.2.2.1 s4.2.2.2.1 s4.2.2.2.2.1 s4.2.2.2.2.2.1 gives settings s4.2.2.2.2.2.2.1 s4.2.2.2.2.2.2.2.1 s4.2.2.2.2.2.2.2.2).2.2.1) ((f_X4_tick beams speeds s4.2.1 s4.2.2.1 s4.2.2.2.1 s4.2.2.2.2.1 s4.2.2.2.2.2.1 gives settings s4.2.2.2.2.2.2.1 s4.2.2.2.2.2.2.2.1 s4.2.2.2.2.2.2.2.2).2.2.2.1) ((f_X4_tick beams speeds s4.2.1 s4.2.2.1 s4.2.2.2.1 s4.2.2.2.2.1 s4.2.2.2.2.2.1 gives settings s4.2.2.2.2.2.2.1 s4.2.2.2.2.2.2.2.1 s4.2.2.2.2.2.2.2.2).2.2.2.2.1) kickSums ((f_X4_tick beams speeds s4.2.1 s4.2.2.1 s4.2.2.2.1 s4.2.2.2.2.1 s4.2.2.2.2.2.1 gives settings s4.2.2.2.2.2.2.1 s4.2.2.2.2.2.2.2.1 s4.2.2.2.2.2.2.2.2).2.2.2.2.2.1) gives settings ((f_X4_tick beams speeds s4.2.1 s4.2.2.1 s4.2.2.2.1 s4.2.2.2.2.1 s4.2.2.2.2.2.1 gives settings s4.2.2.2.2.2.2.1 s4.2.2.2.2.2.2.2.1 s4.2.2.2.2.2.2.2.2).2.2.2.2.2.2.1) kicks ((f_X4_tick beams speeds s4.2.1 s4.2.2.1 s4.2.2.2.1 s4.2.2.2.2.1 s4.2.2.2.2.2.1 gives settings s4.2.2.2.2.2.2.1 s4.2.2.2.2.2.2.2.1 s4.2.2.2.2.2.2.2.2).2.2.2.2.2.2.2.1) ((f_X4_tick beams speeds s4.2.1 s4.2.2.1 s4.2.2.2.1 s4.2.2.2.2.1 s4.2.2.2.2.2.1 gives settings s4.2.2.2.2.2.2.1 s4.2.2.2.2.2.2.2.1 s4.2.2.2.2.2.2.2.2).2.2.2.2.2.2.2.2) leaders]) rfl rfl 2 rfl rfl (q0 := 0) rfl rfl hl.1 rfl (Nat.le_of_ble_eq_true rfl) dX4_letPass_11 ⟨Nat.zero_le _, Nat.zero_le _⟩ rfl (bs' := [stC q cI beams speeds ((f_X4_tick beams speeds s4.2.1 s4.2.2.1 s4.2.2.2.1 s4.2.2.2.2.1 s4.2.2.2.2.2.1 gives settings s4.2.2.2.2.2.2.1 s4.2.2.2.2.2.2.2.1 s4.2.2.2.2.2.2.2.2).2.1) ((f_X4_tick beams speeds s4.2.1 s4.2.2.1 s4.2.2.2.1 s4.2.2.2.2.1 s4.2.2.2.2.2.1 gives settings s4.2.2.2.2.2.2.1 s4.2.2.2.2.2.2.2.1 s4.2.2.2.2.2.2.2.2).2.2.1) ((f_X4_tick beams speeds s4.2.1 s4.2.2.1 s4.2.2.2.1 s4.2.2.2.2.1 s4.2.2.2.2.2.1 gives settings s4.2.2.2.2.2.2.1 s4.2.2.2.2.2.2.2.1 s4.2.2.2.2.2.2.2.2).2.2.2.1) ((f_X4_tick beams speeds s4.2.1 s4.2.2.1 s4.2.2.2.1 s4.2.2.2.2.1 s4.2.2.2.2.2.1 gives settings s4.2.2.2.2.2.2.1 s4.2.2.2.2.2.2.2.1 s4.2.2.2.2.2.2.2.2).2.2.2.2.1) kickSums ((f_X4_tick beams speeds s4.2.1 s4.2.2.1 s4.2.2.2.1 s4.2.2.2.2.1 s4.2.2.2.2.2.1 gives settings s4.2.2.2.2.2.2.1 s4.2.2.2.2.2.2.2.1 s4.2.2.2.2.2.2.2.2).2.2.2.2.2.1) gives settings ((f_X4_tick beams speeds s4.2.1 s4.2.2.1 s4.2.2.2.1 s4.2.2.2.2.1 s4.2.2.2.2.2.1 gives settings s4.2.2.2.2.2.2.1 s4.2.2.2.2.2.2.2.1 s4.2.2.2.2.2.2.2.2).2.2.2.2.2.2.1) kicks ((f_X4_tick beams speeds s4.2.1 s4.2.2.1 s4.2.2.2.1 s4.2.2.2.2.1 s4.2.2.2.2.2.1 gives settings s4.2.2.2.2.2.2.1 s4.2.2.2.2.2.2.2.1 s4.2.2.2.2.2.2.2.2).2.2.2.2.2.2.2.1) ((f_X4_tick beams speeds s4.2.1 s4.2.2.1 s4.2.2.2.1 s4.2.2.2.2.1 s4.2.2.2.2.2.1 gives settings s4.2.2.2.2.2.2.1 s4.2.2.2.2.2.2.2.1 s4.2.2.2.2.2.2.2.2).2.2.2.2.2.2.2.2) leaders]) rfl (fun H locs hP hD hS => ?_)
    refine lv_iadd hx hb dX4_letPass_14 ?_
    refine lv_istore_n (lv' := [(2, .int (s4.1 + (f_X4_tick beams speeds s4.2.1 s4.2.2.1 s4.2.2.2.1 s4.2.2.2.2.1 s4.2.2.2.2.2.1 gives settings s4.2.2.2.2.2.2.1 s4.2.2.2.2.2.2.2.1 s4.2.2.2.2.2.2.2.2).1)), (3, .int (nI i4)), (0, .ref (q 0)), (1, .int n)]) hx hb dX4_letPass_15 rfl hl (by decide) rfl (fun ls hl => ?_)
    refine nv_iinc (k := 1) (lv' := [(3, .int (nI (i4 + 1))), (2, .int (s4.1 + (f_X4_tick beams speeds s4.2.1 s4.2.2.1 s4.2.2.2.1 s4.2.2.2.2.1 s4.2.2.2.2.2.1 gives settings s4.2.2.2.2.2.2.1 s4.2.2.2.2.2.2.2.1 s4.2.2.2.2.2.2.2.2).1)), (0, .ref (q 0)), (1, .int n)]) hx hb i4 dX4_letPass_16 hl rfl (by decide) rfl (fun ls hl => ?_)
    refine lv_goto (tgt := 4) hx hb dX4_letPass_19 (by decide) ?_
    exact ih _ _ _ (lv_sub hl [0, 1, 2, 3] rfl) hP hD hS
  · intro ls H locs hl hP hD hS
    refine lv_iload_n hx hb dX4_letPass_4 rfl (lv_at hl 0 rfl) ?_
    refine lv_iload_n hx hb dX4_letPass_5 rfl (lv_at hl 3 rfl) ?_
    refine nv_geI hx hb n.toNatClampNeg 22 (Nat.le_refl _) dX4_letPass_6 (by decide) (fun _ => ?_) (fun hc => absurd hc (Nat.lt_irrefl _))
    refine lv_iload_n hx hb dX4_letPass_22 rfl (lv_at hl 1 rfl) ?_
    rw [← hQQ]; exact W.iret hx hb hr (ct_end (F := (f_X4_letPass beams speeds phases springs strikes ways nearTicks gives settings ticks strikeTicks pulls n)) (u := (it (L_X4_letPass_4 beams speeds gives settings) 0 n.toNatClampNeg ((0 : Int32), phases, springs, strikes, ways, nearTicks, ticks, strikeTicks, pulls))) (rf := (fun u => some (.int u.1))) (wf := (fun u => [stC q cI beams speeds u.2.1 u.2.2.1 u.2.2.2.1 u.2.2.2.2.1 kickSums u.2.2.2.2.2.1 gives settings u.2.2.2.2.2.2.1 kicks u.2.2.2.2.2.2.2.1 u.2.2.2.2.2.2.2.2 leaders].flatten)) rfl rfl hP hD hS) hS.2.2 dX4_letPass_23
set_option maxRecDepth 100000 in
set_option maxHeartbeats 4000000 in
theorem k_X4_kickBy (l : Launch) (G : va_G) (cI cS cL : ClassId) (q : Nat → Nat) (beams : Nat → Int32) (speeds : Nat → Int32) (phases : Nat → Int32) (springs : Nat → Int32) (strikes : Nat → Int32) (ways : Nat → Int32) (kickSums : Nat → Int32) (nearTicks : Nat → Int32) (gives : Nat → Int32) (settings : Nat → Int32) (ticks : Int32) (kicks : Int32) (strikeTicks : Int32) (pulls : Nat → Int32) (leaders : Nat → Int32) (k : Nat) (by_ : Int32) (hk : k < 8) : Ct l G (tyl cI cS cL) yX4_kickBy cX4_kickBy 3 none 1 22 0 0 [.ref (q 0), .int (nI k), .int by_] [stC q cI beams speeds phases springs strikes ways kickSums nearTicks gives settings ticks kicks strikeTicks pulls leaders].flatten (f_X4_kickBy phases kickSums kicks k by_) (fun _ => none) (fun u => [stC q cI beams speeds u.1 springs strikes ways u.2.1 nearTicks gives settings ticks u.2.2 strikeTicks pulls leaders].flatten) := by
  refine Ct.of (by decide +kernel) (Nat.le_of_ble_eq_true rfl) ?_
  intro p e s m args below meth c A ls hx hb hr hml hw hown hlocks hin hK hN hP hD hS hA hl
  have hown : s.vm.findClass RX4 = some m.cls := hown
  have X : Cx p s m args c cX4_kickBy 3 RX4 G (tyl cI cS cL) := ⟨hx, hb, hml, hown, hw, hK, hN⟩
  have hP : va_P G classes [stC q cI beams speeds phases springs strikes ways kickSums nearTicks gives settings ticks kicks strikeTicks pulls leaders].flatten s.heap := hP
  have hl : lv_has ls 3 [(0, .ref (q 0)), (1, .int (nI k)), (2, .int by_)] := hl
  generalize hQQ : MQ below _ args s 0 0 A = QQ
  refine lv_aload_n hx hb dX4_kickBy_0 rfl (lv_at hl 0 rfl) ?_
  refine va_get (D := G) (ci := 2) (C := RX4) (T := TX4) (N := 15) hx hb hw in_X4 hown hK hP 0 rfl rfl 2 (by decide) (hw _ aw_69) (fun _ h9 => h9) rfl dX4_kickBy_1 ?_
  refine lv_iload_n hx hb dX4_kickBy_4 rfl (lv_at hl 1 rfl) ?_
  refine lv_aload_n hx hb dX4_kickBy_5 rfl (lv_at hl 0 rfl) ?_
  refine va_get (D := G) (ci := 2) (C := RX4) (T := TX4) (N := 15) hx hb hw in_X4 hown hK hP 0 rfl rfl 2 (by decide) (hw _ aw_69) (fun _ h9 => h9) rfl dX4_kickBy_6 ?_
  refine lv_iload_n hx hb dX4_kickBy_9 rfl (lv_at hl 1 rfl) ?_
  refine nv_iald hx hb hK hP 3 0 rfl rfl k (by omega) (by decide) dX4_kickBy_10 ?_
  refine lv_iload_n hx hb dX4_kickBy_11 rfl (lv_at hl 2 rfl) ?_
  refine lv_iadd hx hb dX4_kickBy_12 ?_
  refine lv_sipush (v := 1000) hx hb dX4_kickBy_13 (by decide) ?_
  refine ct_callS (As := [.int ((phases k) + by_), .int (1000 : Int32)]) (rest := [.int (nI k), .ref (q 3)]) X hP hD hS hA (k_J9_floorMod_7cf53 l G cI cS cL  ((phases k) + by_) (1000 : Int32) (by decide)) cq_J9_floorMod_7cf53 aw_527 ⟨Nat.le_of_ble_eq_true rfl, Nat.le_of_ble_eq_true rfl⟩ ([] : List Nat) (cs := []) rfl (by decide) (cs' := []) rfl rfl rfl hl.1 rfl (Nat.le_of_ble_eq_true rfl) dX4_kickBy_16 ⟨Nat.zero_le _, Nat.zero_le _⟩ rfl (bs' := [stC q cI beams speeds phases springs strikes ways kickSums nearTicks gives settings ticks kicks strikeTicks pulls leaders]) rfl (fun H locs hP hD hS => ?_)
  refine nv_iast hx hb hK hP hD hS 3 0 rfl rfl k (by omega) (by decide) dX4_kickBy_19 (ws' := [stC q cI beams speeds (upd phases k (f_J9_floorMod_7cf53 ((phases k) + by_) (1000 : Int32))) springs strikes ways kickSums nearTicks gives settings ticks kicks strikeTicks pulls leaders].flatten) rfl (fun H locs hP hD hS => ?_)
  refine lv_aload_n hx hb dX4_kickBy_20 rfl (lv_at hl 0 rfl) ?_
  refine va_get (D := G) (ci := 2) (C := RX4) (T := TX4) (N := 15) hx hb hw in_X4 hown hK hP 0 rfl rfl 6 (by decide) (hw _ aw_76) (fun _ h9 => h9) rfl dX4_kickBy_21 ?_
  refine lv_iload_n hx hb dX4_kickBy_24 rfl (lv_at hl 1 rfl) ?_
  refine lv_dup2_11 hx hb dX4_kickBy_25 rfl rfl ?_
  refine nv_iald hx hb hK hP 7 0 rfl rfl k (by omega) (by decide) dX4_kickBy_26 ?_
  refine lv_iload_n hx hb dX4_kickBy_27 rfl (lv_at hl 2 rfl) ?_
  refine lv_iadd hx hb dX4_kickBy_28 ?_
  refine nv_iast hx hb hK hP hD hS 7 0 rfl rfl k (by omega) (by decide) dX4_kickBy_29 (ws' := [stC q cI beams speeds (upd phases k (f_J9_floorMod_7cf53 ((phases k) + by_) (1000 : Int32))) springs strikes ways (upd kickSums k ((kickSums k) + by_)) nearTicks gives settings ticks kicks strikeTicks pulls leaders].flatten) rfl (fun H locs hP hD hS => ?_)
  refine lv_aload_n hx hb dX4_kickBy_30 rfl (lv_at hl 0 rfl) ?_
  refine lv_dup hx hb dX4_kickBy_31 rfl ?_
  refine va_get (D := G) (ci := 2) (C := RX4) (T := TX4) (N := 15) hx hb hw in_X4 hown hK hP 0 rfl rfl 11 (by decide) (hw _ aw_84) (fun _ h9 => h9) rfl dX4_kickBy_32 ?_
  refine lv_iconst (v := 1) hx hb dX4_kickBy_35 (by decide) ?_
  refine lv_iadd hx hb dX4_kickBy_36 ?_
  refine nv_put (D := G) (ci := 2) (ty := .int) (v := .int (kicks + (1 : Int32))) (C := RX4) (T := TX4) (N := 15) hx hb hw in_X4 tyX4 tyX4_ok nmX4 hown hK hP hD hS 0 rfl rfl 11 (by decide) (hw _ aw_84) (fun _ h9 => h9) rfl (by decide +kernel) rfl rfl (Nat.le_of_ble_eq_true rfl) dX4_kickBy_37 (ws' := [stC q cI beams speeds (upd phases k (f_J9_floorMod_7cf53 ((phases k) + by_) (1000 : Int32))) springs strikes ways (upd kickSums k ((kickSums k) + by_)) nearTicks gives settings ticks (kicks + (1 : Int32)) strikeTicks pulls leaders].flatten) rfl (fun H locs hP hD hS => ?_)
  rw [← hQQ]; exact W.vret hx hb hr (ct_end (F := (f_X4_kickBy phases kickSums kicks k by_)) (u := ((upd phases k (f_J9_floorMod_7cf53 ((phases k) + by_) (1000 : Int32))), (upd kickSums k ((kickSums k) + by_)), (kicks + (1 : Int32)))) (rf := (fun _ => none)) (wf := (fun u => [stC q cI beams speeds u.1 springs strikes ways u.2.1 nearTicks gives settings ticks u.2.2 strikeTicks pulls leaders].flatten)) rfl rfl hP hD hS) hS.2.2 dX4_kickBy_40
set_option maxRecDepth 100000 in
set_option maxHeartbeats 4000000 in
theorem k_X4_copyFrom (l : Launch) (G : va_G) (cI cS cL : ClassId) (q : Nat → Nat) (r : Nat → Nat) (beams : Nat → Int32) (speeds : Nat → Int32) (phases : Nat → Int32) (springs : Nat → Int32) (strikes : Nat → Int32) (ways : Nat → Int32) (kickSums : Nat → Int32) (nearTicks : Nat → Int32) (gives : Nat → Int32) (settings : Nat → Int32) (ticks : Int32) (kicks : Int32) (strikeTicks : Int32) (pulls : Nat → Int32) (leaders : Nat → Int32) (o_beams : Nat → Int32) (o_speeds : Nat → Int32) (o_phases : Nat → Int32) (o_springs : Nat → Int32) (o_strikes : Nat → Int32) (o_ways : Nat → Int32) (o_kickSums : Nat → Int32) (o_nearTicks : Nat → Int32) (o_gives : Nat → Int32) (o_settings : Nat → Int32) (o_ticks : Int32) (o_kicks : Int32) (o_strikeTicks : Int32) (o_pulls : Nat → Int32) (o_leaders : Nat → Int32) : Ct l G (tyl cI cS cL) yX4_copyFrom cX4_copyFrom 2 none 1 18 0 0 [.ref (q 0), .ref (r 0)] [stC q cI beams speeds phases springs strikes ways kickSums nearTicks gives settings ticks kicks strikeTicks pulls leaders, stC r cI o_beams o_speeds o_phases o_springs o_strikes o_ways o_kickSums o_nearTicks o_gives o_settings o_ticks o_kicks o_strikeTicks o_pulls o_leaders].flatten () (fun _ => none) (fun _ => [stC q cI o_beams o_speeds o_phases o_springs o_strikes o_ways o_kickSums o_nearTicks o_gives o_settings o_ticks o_kicks o_strikeTicks pulls leaders, stC r cI o_beams o_speeds o_phases o_springs o_strikes o_ways o_kickSums o_nearTicks o_gives o_settings o_ticks o_kicks o_strikeTicks o_pulls o_leaders].flatten) := by
  refine Ct.of (by decide +kernel) (Nat.le_of_ble_eq_true rfl) ?_
  intro p e s m args below meth c A ls hx hb hr hml hw hown hlocks hin hK hN hP hD hS hA hl
  have hown : s.vm.findClass RX4 = some m.cls := hown
  have X : Cx p s m args c cX4_copyFrom 2 RX4 G (tyl cI cS cL) := ⟨hx, hb, hml, hown, hw, hK, hN⟩
  have hP : va_P G classes [stC q cI beams speeds phases springs strikes ways kickSums nearTicks gives settings ticks kicks strikeTicks pulls leaders, stC r cI o_beams o_speeds o_phases o_springs o_strikes o_ways o_kickSums o_nearTicks o_gives o_settings o_ticks o_kicks o_strikeTicks o_pulls o_leaders].flatten s.heap := hP
  have hl : lv_has ls 2 [(0, .ref (q 0)), (1, .ref (r 0))] := hl
  generalize hQQ : MQ below _ args s 0 0 A = QQ
  refine lv_aload_n hx hb dX4_copyFrom_0 rfl (lv_at hl 1 rfl) ?_
  refine va_get (D := G) (ci := 2) (C := RX4) (T := TX4) (N := 15) hx hb hw in_X4 hown hK hP 13 rfl rfl 0 (by decide) (hw _ aw_66) (fun _ h9 => h9) rfl dX4_copyFrom_1 ?_
  refine lv_iconst (v := 0) hx hb dX4_copyFrom_4 (by decide) ?_
  refine lv_aload_n hx hb dX4_copyFrom_5 rfl (lv_at hl 0 rfl) ?_
  refine va_get (D := G) (ci := 2) (C := RX4) (T := TX4) (N := 15) hx hb hw in_X4 hown hK hP 0 rfl rfl 0 (by decide) (hw _ aw_66) (fun _ h9 => h9) rfl dX4_copyFrom_6 ?_
  refine lv_iconst (v := 0) hx hb dX4_copyFrom_9 (by decide) ?_
  refine lv_bipush (v := 8) hx hb dX4_copyFrom_10 (by decide) ?_
  refine nv_copyall hx hb (hml.trans hl.1.symm) hown (hw _ aw_488) (hw _ aw_490) (hw _ aw_489) (hw _ aw_44) hK hP hD hS 14 1 0 8 rfl rfl rfl (by decide) (by decide) (Nat.le_of_ble_eq_true rfl) (Nat.le_of_ble_eq_true rfl) dX4_copyFrom_12 (ws' := [stC q cI o_beams speeds phases springs strikes ways kickSums nearTicks gives settings ticks kicks strikeTicks pulls leaders, stC r cI o_beams o_speeds o_phases o_springs o_strikes o_ways o_kickSums o_nearTicks o_gives o_settings o_ticks o_kicks o_strikeTicks o_pulls o_leaders].flatten) rfl (fun H locs hP hD hS => ?_)
  refine lv_aload_n hx hb dX4_copyFrom_15 rfl (lv_at hl 1 rfl) ?_
  refine va_get (D := G) (ci := 2) (C := RX4) (T := TX4) (N := 15) hx hb hw in_X4 hown hK hP 13 rfl rfl 1 (by decide) (hw _ aw_67) (fun _ h9 => h9) rfl dX4_copyFrom_16 ?_
  refine lv_iconst (v := 0) hx hb dX4_copyFrom_19 (by decide) ?_
  refine lv_aload_n hx hb dX4_copyFrom_20 rfl (lv_at hl 0 rfl) ?_
  refine va_get (D := G) (ci := 2) (C := RX4) (T := TX4) (N := 15) hx hb hw in_X4 hown hK hP 0 rfl rfl 1 (by decide) (hw _ aw_67) (fun _ h9 => h9) rfl dX4_copyFrom_21 ?_
  refine lv_iconst (v := 0) hx hb dX4_copyFrom_24 (by decide) ?_
  refine lv_bipush (v := 8) hx hb dX4_copyFrom_25 (by decide) ?_
  refine nv_copyall hx hb (hml.trans hl.1.symm) hown (hw _ aw_488) (hw _ aw_490) (hw _ aw_489) (hw _ aw_44) hK hP hD hS 15 2 0 8 rfl rfl rfl (by decide) (by decide) (Nat.le_of_ble_eq_true rfl) (Nat.le_of_ble_eq_true rfl) dX4_copyFrom_27 (ws' := [stC q cI o_beams o_speeds phases springs strikes ways kickSums nearTicks gives settings ticks kicks strikeTicks pulls leaders, stC r cI o_beams o_speeds o_phases o_springs o_strikes o_ways o_kickSums o_nearTicks o_gives o_settings o_ticks o_kicks o_strikeTicks o_pulls o_leaders].flatten) rfl (fun H locs hP hD hS => ?_)
  refine lv_aload_n hx hb dX4_copyFrom_30 rfl (lv_at hl 1 rfl) ?_
  refine va_get (D := G) (ci := 2) (C := RX4) (T := TX4) (N := 15) hx hb hw in_X4 hown hK hP 13 rfl rfl 2 (by decide) (hw _ aw_69) (fun _ h9 => h9) rfl dX4_copyFrom_31 ?_
  refine lv_iconst (v := 0) hx hb dX4_copyFrom_34 (by decide) ?_
  refine lv_aload_n hx hb dX4_copyFrom_35 rfl (lv_at hl 0 rfl) ?_
  refine va_get (D := G) (ci := 2) (C := RX4) (T := TX4) (N := 15) hx hb hw in_X4 hown hK hP 0 rfl rfl 2 (by decide) (hw _ aw_69) (fun _ h9 => h9) rfl dX4_copyFrom_36 ?_
  refine lv_iconst (v := 0) hx hb dX4_copyFrom_39 (by decide) ?_
  refine lv_bipush (v := 8) hx hb dX4_copyFrom_40 (by decide) ?_
  refine nv_copyall hx hb (hml.trans hl.1.symm) hown (hw _ aw_488) (hw _ aw_490) (hw _ aw_489) (hw _ aw_44) hK hP hD hS 16 3 0 8 rfl rfl rfl (by decide) (by decide) (Nat.le_of_ble_eq_true rfl) (Nat.le_of_ble_eq_true rfl) dX4_copyFrom_42 (ws' := [stC q cI o_beams o_speeds o_phases springs strikes ways kickSums nearTicks gives settings ticks kicks strikeTicks pulls leaders, stC r cI o_beams o_speeds o_phases o_springs o_strikes o_ways o_kickSums o_nearTicks o_gives o_settings o_ticks o_kicks o_strikeTicks o_pulls o_leaders].flatten) rfl (fun H locs hP hD hS => ?_)
  refine lv_aload_n hx hb dX4_copyFrom_45 rfl (lv_at hl 1 rfl) ?_
  refine va_get (D := G) (ci := 2) (C := RX4) (T := TX4) (N := 15) hx hb hw in_X4 hown hK hP 13 rfl rfl 3 (by decide) (hw _ aw_71) (fun _ h9 => h9) rfl dX4_copyFrom_46 ?_
  refine lv_iconst (v := 0) hx hb dX4_copyFrom_49 (by decide) ?_
  refine lv_aload_n hx hb dX4_copyFrom_50 rfl (lv_at hl 0 rfl) ?_
  refine va_get (D := G) (ci := 2) (C := RX4) (T := TX4) (N := 15) hx hb hw in_X4 hown hK hP 0 rfl rfl 3 (by decide) (hw _ aw_71) (fun _ h9 => h9) rfl dX4_copyFrom_51 ?_
  refine lv_iconst (v := 0) hx hb dX4_copyFrom_54 (by decide) ?_
  refine lv_bipush (v := 8) hx hb dX4_copyFrom_55 (by decide) ?_
  refine nv_copyall hx hb (hml.trans hl.1.symm) hown (hw _ aw_488) (hw _ aw_490) (hw _ aw_489) (hw _ aw_44) hK hP hD hS 17 4 0 8 rfl rfl rfl (by decide) (by decide) (Nat.le_of_ble_eq_true rfl) (Nat.le_of_ble_eq_true rfl) dX4_copyFrom_57 (ws' := [stC q cI o_beams o_speeds o_phases o_springs strikes ways kickSums nearTicks gives settings ticks kicks strikeTicks pulls leaders, stC r cI o_beams o_speeds o_phases o_springs o_strikes o_ways o_kickSums o_nearTicks o_gives o_settings o_ticks o_kicks o_strikeTicks o_pulls o_leaders].flatten) rfl (fun H locs hP hD hS => ?_)
  refine lv_aload_n hx hb dX4_copyFrom_60 rfl (lv_at hl 1 rfl) ?_
  refine va_get (D := G) (ci := 2) (C := RX4) (T := TX4) (N := 15) hx hb hw in_X4 hown hK hP 13 rfl rfl 4 (by decide) (hw _ aw_73) (fun _ h9 => h9) rfl dX4_copyFrom_61 ?_
  refine lv_iconst (v := 0) hx hb dX4_copyFrom_64 (by decide) ?_
  refine lv_aload_n hx hb dX4_copyFrom_65 rfl (lv_at hl 0 rfl) ?_
  refine va_get (D := G) (ci := 2) (C := RX4) (T := TX4) (N := 15) hx hb hw in_X4 hown hK hP 0 rfl rfl 4 (by decide) (hw _ aw_73) (fun _ h9 => h9) rfl dX4_copyFrom_66 ?_
  refine lv_iconst (v := 0) hx hb dX4_copyFrom_69 (by decide) ?_
  refine lv_bipush (v := 8) hx hb dX4_copyFrom_70 (by decide) ?_
  refine nv_copyall hx hb (hml.trans hl.1.symm) hown (hw _ aw_488) (hw _ aw_490) (hw _ aw_489) (hw _ aw_44) hK hP hD hS 18 5 0 8 rfl rfl rfl (by decide) (by decide) (Nat.le_of_ble_eq_true rfl) (Nat.le_of_ble_eq_true rfl) dX4_copyFrom_72 (ws' := [stC q cI o_beams o_speeds o_phases o_springs o_strikes ways kickSums nearTicks gives settings ticks kicks strikeTicks pulls leaders, stC r cI o_beams o_speeds o_phases o_springs o_strikes o_ways o_kickSums o_nearTicks o_gives o_settings o_ticks o_kicks o_strikeTicks o_pulls o_leaders].flatten) rfl (fun H locs hP hD hS => ?_)
  refine lv_aload_n hx hb dX4_copyFrom_75 rfl (lv_at hl 1 rfl) ?_
  refine va_get (D := G) (ci := 2) (C := RX4) (T := TX4) (N := 15) hx hb hw in_X4 hown hK hP 13 rfl rfl 5 (by decide) (hw _ aw_75) (fun _ h9 => h9) rfl dX4_copyFrom_76 ?_
  refine lv_iconst (v := 0) hx hb dX4_copyFrom_79 (by decide) ?_
  refine lv_aload_n hx hb dX4_copyFrom_80 rfl (lv_at hl 0 rfl) ?_
  refine va_get (D := G) (ci := 2) (C := RX4) (T := TX4) (N := 15) hx hb hw in_X4 hown hK hP 0 rfl rfl 5 (by decide) (hw _ aw_75) (fun _ h9 => h9) rfl dX4_copyFrom_81 ?_
  refine lv_iconst (v := 0) hx hb dX4_copyFrom_84 (by decide) ?_
  refine lv_bipush (v := 8) hx hb dX4_copyFrom_85 (by decide) ?_
  refine nv_copyall hx hb (hml.trans hl.1.symm) hown (hw _ aw_488) (hw _ aw_490) (hw _ aw_489) (hw _ aw_44) hK hP hD hS 19 6 0 8 rfl rfl rfl (by decide) (by decide) (Nat.le_of_ble_eq_true rfl) (Nat.le_of_ble_eq_true rfl) dX4_copyFrom_87 (ws' := [stC q cI o_beams o_speeds o_phases o_springs o_strikes o_ways kickSums nearTicks gives settings ticks kicks strikeTicks pulls leaders, stC r cI o_beams o_speeds o_phases o_springs o_strikes o_ways o_kickSums o_nearTicks o_gives o_settings o_ticks o_kicks o_strikeTicks o_pulls o_leaders].flatten) rfl (fun H locs hP hD hS => ?_)
  refine lv_aload_n hx hb dX4_copyFrom_90 rfl (lv_at hl 1 rfl) ?_
  refine va_get (D := G) (ci := 2) (C := RX4) (T := TX4) (N := 15) hx hb hw in_X4 hown hK hP 13 rfl rfl 6 (by decide) (hw _ aw_76) (fun _ h9 => h9) rfl dX4_copyFrom_91 ?_
  refine lv_iconst (v := 0) hx hb dX4_copyFrom_94 (by decide) ?_
  refine lv_aload_n hx hb dX4_copyFrom_95 rfl (lv_at hl 0 rfl) ?_
  refine va_get (D := G) (ci := 2) (C := RX4) (T := TX4) (N := 15) hx hb hw in_X4 hown hK hP 0 rfl rfl 6 (by decide) (hw _ aw_76) (fun _ h9 => h9) rfl dX4_copyFrom_96 ?_
  refine lv_iconst (v := 0) hx hb dX4_copyFrom_99 (by decide) ?_
  refine lv_bipush (v := 8) hx hb dX4_copyFrom_100 (by decide) ?_
  refine nv_copyall hx hb (hml.trans hl.1.symm) hown (hw _ aw_488) (hw _ aw_490) (hw _ aw_489) (hw _ aw_44) hK hP hD hS 20 7 0 8 rfl rfl rfl (by decide) (by decide) (Nat.le_of_ble_eq_true rfl) (Nat.le_of_ble_eq_true rfl) dX4_copyFrom_102 (ws' := [stC q cI o_beams o_speeds o_phases o_springs o_strikes o_ways o_kickSums nearTicks gives settings ticks kicks strikeTicks pulls leaders, stC r cI o_beams o_speeds o_phases o_springs o_strikes o_ways o_kickSums o_nearTicks o_gives o_settings o_ticks o_kicks o_strikeTicks o_pulls o_leaders].flatten) rfl (fun H locs hP hD hS => ?_)
  refine lv_aload_n hx hb dX4_copyFrom_105 rfl (lv_at hl 1 rfl) ?_
  refine va_get (D := G) (ci := 2) (C := RX4) (T := TX4) (N := 15) hx hb hw in_X4 hown hK hP 13 rfl rfl 7 (by decide) (hw _ aw_77) (fun _ h9 => h9) rfl dX4_copyFrom_106 ?_
  refine lv_iconst (v := 0) hx hb dX4_copyFrom_109 (by decide) ?_
  refine lv_aload_n hx hb dX4_copyFrom_110 rfl (lv_at hl 0 rfl) ?_
  refine va_get (D := G) (ci := 2) (C := RX4) (T := TX4) (N := 15) hx hb hw in_X4 hown hK hP 0 rfl rfl 7 (by decide) (hw _ aw_77) (fun _ h9 => h9) rfl dX4_copyFrom_111 ?_
  refine lv_iconst (v := 0) hx hb dX4_copyFrom_114 (by decide) ?_
  refine lv_bipush (v := 64) hx hb dX4_copyFrom_115 (by decide) ?_
  refine nv_copyall hx hb (hml.trans hl.1.symm) hown (hw _ aw_488) (hw _ aw_490) (hw _ aw_489) (hw _ aw_44) hK hP hD hS 21 8 0 64 rfl rfl rfl (by decide) (by decide) (Nat.le_of_ble_eq_true rfl) (Nat.le_of_ble_eq_true rfl) dX4_copyFrom_117 (ws' := [stC q cI o_beams o_speeds o_phases o_springs o_strikes o_ways o_kickSums o_nearTicks gives settings ticks kicks strikeTicks pulls leaders, stC r cI o_beams o_speeds o_phases o_springs o_strikes o_ways o_kickSums o_nearTicks o_gives o_settings o_ticks o_kicks o_strikeTicks o_pulls o_leaders].flatten) rfl (fun H locs hP hD hS => ?_)
  refine lv_aload_n hx hb dX4_copyFrom_120 rfl (lv_at hl 1 rfl) ?_
  refine va_get (D := G) (ci := 2) (C := RX4) (T := TX4) (N := 15) hx hb hw in_X4 hown hK hP 13 rfl rfl 8 (by decide) (hw _ aw_78) (fun _ h9 => h9) rfl dX4_copyFrom_121 ?_
  refine lv_iconst (v := 0) hx hb dX4_copyFrom_124 (by decide) ?_
  refine lv_aload_n hx hb dX4_copyFrom_125 rfl (lv_at hl 0 rfl) ?_
  refine va_get (D := G) (ci := 2) (C := RX4) (T := TX4) (N := 15) hx hb hw in_X4 hown hK hP 0 rfl rfl 8 (by decide) (hw _ aw_78) (fun _ h9 => h9) rfl dX4_copyFrom_126 ?_
  refine lv_iconst (v := 0) hx hb dX4_copyFrom_129 (by decide) ?_
  refine lv_iconst (v := 3) hx hb dX4_copyFrom_130 (by decide) ?_
  refine nv_copyall hx hb (hml.trans hl.1.symm) hown (hw _ aw_488) (hw _ aw_490) (hw _ aw_489) (hw _ aw_44) hK hP hD hS 22 9 0 3 rfl rfl rfl (by decide) (by decide) (Nat.le_of_ble_eq_true rfl) (Nat.le_of_ble_eq_true rfl) dX4_copyFrom_131 (ws' := [stC q cI o_beams o_speeds o_phases o_springs o_strikes o_ways o_kickSums o_nearTicks o_gives settings ticks kicks strikeTicks pulls leaders, stC r cI o_beams o_speeds o_phases o_springs o_strikes o_ways o_kickSums o_nearTicks o_gives o_settings o_ticks o_kicks o_strikeTicks o_pulls o_leaders].flatten) rfl (fun H locs hP hD hS => ?_)
  refine lv_aload_n hx hb dX4_copyFrom_134 rfl (lv_at hl 1 rfl) ?_
  refine va_get (D := G) (ci := 2) (C := RX4) (T := TX4) (N := 15) hx hb hw in_X4 hown hK hP 13 rfl rfl 9 (by decide) (hw _ aw_80) (fun _ h9 => h9) rfl dX4_copyFrom_135 ?_
  refine lv_iconst (v := 0) hx hb dX4_copyFrom_138 (by decide) ?_
  refine lv_aload_n hx hb dX4_copyFrom_139 rfl (lv_at hl 0 rfl) ?_
  refine va_get (D := G) (ci := 2) (C := RX4) (T := TX4) (N := 15) hx hb hw in_X4 hown hK hP 0 rfl rfl 9 (by decide) (hw _ aw_80) (fun _ h9 => h9) rfl dX4_copyFrom_140 ?_
  refine lv_iconst (v := 0) hx hb dX4_copyFrom_143 (by decide) ?_
  refine lv_iconst (v := 3) hx hb dX4_copyFrom_144 (by decide) ?_
  refine nv_copyall hx hb (hml.trans hl.1.symm) hown (hw _ aw_488) (hw _ aw_490) (hw _ aw_489) (hw _ aw_44) hK hP hD hS 23 10 0 3 rfl rfl rfl (by decide) (by decide) (Nat.le_of_ble_eq_true rfl) (Nat.le_of_ble_eq_true rfl) dX4_copyFrom_145 (ws' := [stC q cI o_beams o_speeds o_phases o_springs o_strikes o_ways o_kickSums o_nearTicks o_gives o_settings ticks kicks strikeTicks pulls leaders, stC r cI o_beams o_speeds o_phases o_springs o_strikes o_ways o_kickSums o_nearTicks o_gives o_settings o_ticks o_kicks o_strikeTicks o_pulls o_leaders].flatten) rfl (fun H locs hP hD hS => ?_)
  refine lv_aload_n hx hb dX4_copyFrom_148 rfl (lv_at hl 0 rfl) ?_
  refine lv_aload_n hx hb dX4_copyFrom_149 rfl (lv_at hl 1 rfl) ?_
  refine va_get (D := G) (ci := 2) (C := RX4) (T := TX4) (N := 15) hx hb hw in_X4 hown hK hP 13 rfl rfl 10 (by decide) (hw _ aw_82) (fun _ h9 => h9) rfl dX4_copyFrom_150 ?_
  refine nv_put (D := G) (ci := 2) (ty := .int) (v := .int o_ticks) (C := RX4) (T := TX4) (N := 15) hx hb hw in_X4 tyX4 tyX4_ok nmX4 hown hK hP hD hS 0 rfl rfl 10 (by decide) (hw _ aw_82) (fun _ h9 => h9) rfl (by decide +kernel) rfl rfl (Nat.le_of_ble_eq_true rfl) dX4_copyFrom_153 (ws' := [stC q cI o_beams o_speeds o_phases o_springs o_strikes o_ways o_kickSums o_nearTicks o_gives o_settings o_ticks kicks strikeTicks pulls leaders, stC r cI o_beams o_speeds o_phases o_springs o_strikes o_ways o_kickSums o_nearTicks o_gives o_settings o_ticks o_kicks o_strikeTicks o_pulls o_leaders].flatten) rfl (fun H locs hP hD hS => ?_)
  refine lv_aload_n hx hb dX4_copyFrom_156 rfl (lv_at hl 0 rfl) ?_
  refine lv_aload_n hx hb dX4_copyFrom_157 rfl (lv_at hl 1 rfl) ?_
  refine va_get (D := G) (ci := 2) (C := RX4) (T := TX4) (N := 15) hx hb hw in_X4 hown hK hP 13 rfl rfl 11 (by decide) (hw _ aw_84) (fun _ h9 => h9) rfl dX4_copyFrom_158 ?_
  refine nv_put (D := G) (ci := 2) (ty := .int) (v := .int o_kicks) (C := RX4) (T := TX4) (N := 15) hx hb hw in_X4 tyX4 tyX4_ok nmX4 hown hK hP hD hS 0 rfl rfl 11 (by decide) (hw _ aw_84) (fun _ h9 => h9) rfl (by decide +kernel) rfl rfl (Nat.le_of_ble_eq_true rfl) dX4_copyFrom_161 (ws' := [stC q cI o_beams o_speeds o_phases o_springs o_strikes o_ways o_kickSums o_nearTicks o_gives o_settings o_ticks o_kicks strikeTicks pulls leaders, stC r cI o_beams o_speeds o_phases o_springs o_strikes o_ways o_kickSums o_nearTicks o_gives o_settings o_ticks o_kicks o_strikeTicks o_pulls o_leaders].flatten) rfl (fun H locs hP hD hS => ?_)
  refine lv_aload_n hx hb dX4_copyFrom_164 rfl (lv_at hl 0 rfl) ?_
  refine lv_aload_n hx hb dX4_copyFrom_165 rfl (lv_at hl 1 rfl) ?_
  refine va_get (D := G) (ci := 2) (C := RX4) (T := TX4) (N := 15) hx hb hw in_X4 hown hK hP 13 rfl rfl 12 (by decide) (hw _ aw_85) (fun _ h9 => h9) rfl dX4_copyFrom_166 ?_
  refine nv_put (D := G) (ci := 2) (ty := .int) (v := .int o_strikeTicks) (C := RX4) (T := TX4) (N := 15) hx hb hw in_X4 tyX4 tyX4_ok nmX4 hown hK hP hD hS 0 rfl rfl 12 (by decide) (hw _ aw_85) (fun _ h9 => h9) rfl (by decide +kernel) rfl rfl (Nat.le_of_ble_eq_true rfl) dX4_copyFrom_169 (ws' := [stC q cI o_beams o_speeds o_phases o_springs o_strikes o_ways o_kickSums o_nearTicks o_gives o_settings o_ticks o_kicks o_strikeTicks pulls leaders, stC r cI o_beams o_speeds o_phases o_springs o_strikes o_ways o_kickSums o_nearTicks o_gives o_settings o_ticks o_kicks o_strikeTicks o_pulls o_leaders].flatten) rfl (fun H locs hP hD hS => ?_)
  rw [← hQQ]; exact W.vret hx hb hr (ct_end (F := ()) (u := ()) (rf := (fun _ => none)) (wf := (fun _ => [stC q cI o_beams o_speeds o_phases o_springs o_strikes o_ways o_kickSums o_nearTicks o_gives o_settings o_ticks o_kicks o_strikeTicks pulls leaders, stC r cI o_beams o_speeds o_phases o_springs o_strikes o_ways o_kickSums o_nearTicks o_gives o_settings o_ticks o_kicks o_strikeTicks o_pulls o_leaders].flatten)) rfl rfl hP hD hS) hS.2.2 dX4_copyFrom_172
set_option maxRecDepth 100000 in
set_option maxHeartbeats 4000000 in
theorem k_X4_greatestGroup (l : Launch) (G : va_G) (cI cS cL : ClassId) (q : Nat → Nat) (beams : Nat → Int32) (speeds : Nat → Int32) (phases : Nat → Int32) (springs : Nat → Int32) (strikes : Nat → Int32) (ways : Nat → Int32) (kickSums : Nat → Int32) (nearTicks : Nat → Int32) (gives : Nat → Int32) (settings : Nat → Int32) (ticks : Int32) (kicks : Int32) (strikeTicks : Int32) (pulls : Nat → Int32) (leaders : Nat → Int32) : Ct l G (tyl cI cS cL) yX4_greatestGroup cX4_greatestGroup 3 (some (Jvm.ClassFile.FieldType.int)) 3 69 0 0 [.ref (q 0)] [stC q cI beams speeds phases springs strikes ways kickSums nearTicks gives settings ticks kicks strikeTicks pulls leaders].flatten (f_X4_greatestGroup nearTicks settings) (fun u => some (.int u)) (fun _ => [stC q cI beams speeds phases springs strikes ways kickSums nearTicks gives settings ticks kicks strikeTicks pulls leaders].flatten) := by
  refine Ct.of (by decide +kernel) (Nat.le_of_ble_eq_true rfl) ?_
  intro p e s m args below meth c A ls hx hb hr hml hw hown hlocks hin hK hN hP hD hS hA hl
  have hown : s.vm.findClass RX4 = some m.cls := hown
  have X : Cx p s m args c cX4_greatestGroup 3 RX4 G (tyl cI cS cL) := ⟨hx, hb, hml, hown, hw, hK, hN⟩
  have hP : va_P G classes [stC q cI beams speeds phases springs strikes ways kickSums nearTicks gives settings ticks kicks strikeTicks pulls leaders].flatten s.heap := hP
  have hl : lv_has ls 3 [(0, .ref (q 0))] := hl
  generalize hQQ : MQ below _ args s 0 0 A = QQ
  refine lv_iconst (v := 0) hx hb dX4_greatestGroup_0 (by decide) ?_
  refine lv_istore_n (lv' := [(1, .int (0 : Int32)), (0, .ref (q 0))]) hx hb dX4_greatestGroup_1 rfl hl (by decide) rfl (fun ls hl => ?_)
  refine lv_iconst (v := 0) hx hb dX4_greatestGroup_2 (by decide) ?_
  refine lv_istore_n (lv' := [(2, .int (0 : Int32)), (1, .int (0 : Int32)), (0, .ref (q 0))]) hx hb dX4_greatestGroup_3 rfl hl (by decide) rfl (fun ls hl => ?_)
  refine it_loop (f := (L_X4_greatestGroup_4 nearTicks settings)) 8 (fun (i4 : Nat) (s4 : Int32) => ∀ (ls : Array Slot) (H : Heap) (locs : List Loc), lv_has ls 3 [(2, .int (nI i4)), (1, .int s4), (0, .ref (q 0))] → va_P G classes [stC q cI beams speeds phases springs strikes ways kickSums nearTicks gives settings ticks kicks strikeTicks pulls leaders].flatten H → va_D A [stC q cI beams speeds phases springs strikes ways kickSums nearTicks gives settings ticks kicks strikeTicks pulls leaders].flatten → va_S A s.heap H locs → W p l e ({ frames := 3, cells := 0, slots := 0, locals := 69 } : Room) s m args below meth c H locs 0 0 QQ (F0 m 4 ls [])) (fun i4 s4 hi4 ih => ?_) 8 0 (0 : Int32) (by omega) ?_ ls _ _ (lv_sub hl [0, 1, 2] rfl) hP hD hS
  · intro ls H locs hl hP hD hS
    refine lv_iload_n hx hb dX4_greatestGroup_4 rfl (lv_at hl 0 rfl) ?_
    refine lv_bipush (v := 8) hx hb dX4_greatestGroup_5 (by decide) ?_
    refine nv_ge hx hb i4 8 29 (by omega) (by omega) dX4_greatestGroup_7 (by decide) (fun hc => absurd hc (by omega)) (fun _ => ?_)
    refine lv_iload_n hx hb dX4_greatestGroup_10 rfl (lv_at hl 1 rfl) ?_
    refine lv_aload_n hx hb dX4_greatestGroup_11 rfl (lv_at hl 2 rfl) ?_
    refine lv_iload_n hx hb dX4_greatestGroup_12 rfl (lv_at hl 0 rfl) ?_
    refine ct_callV (As := [.int (nI i4)]) (rest := [.int s4]) X hP hD hS hA (k_X4_groupMask l G cI cS cL q beams speeds phases springs strikes ways kickSums nearTicks gives settings ticks kicks strikeTicks pulls leaders i4 (by omega)) cp_X4_groupMask aw_325 ⟨Nat.le_of_ble_eq_true rfl, Nat.le_of_ble_eq_true rfl⟩ [0] (cs := [stC q cI beams speeds phases springs strikes ways kickSums nearTicks gives settings ticks kicks strikeTicks pulls leaders]) rfl (by decide) (cs' := [stC q cI beams speeds phases springs strikes ways kickSums nearTicks gives settings ticks kicks strikeTicks pulls leaders]) rfl rfl 2 rfl rfl (q0 := 0) rfl rfl hl.1 rfl (Nat.le_of_ble_eq_true rfl) dX4_greatestGroup_13 ⟨Nat.zero_le _, Nat.zero_le _⟩ rfl (bs' := [stC q cI beams speeds phases springs strikes ways kickSums nearTicks gives settings ticks kicks strikeTicks pulls leaders]) rfl (fun H locs hP hD hS => ?_)
    refine ct_callS (As := [.int (f_X4_groupMask nearTicks settings i4)]) (rest := [.int s4]) X hP hD hS hA (k_J6_bitCount_0f7a4 l G cI cS cL  (f_X4_groupMask nearTicks settings i4)) cq_J6_bitCount_0f7a4 aw_296 ⟨Nat.le_of_ble_eq_true rfl, Nat.le_of_ble_eq_true rfl⟩ ([] : List Nat) (cs := []) rfl (by decide) (cs' := []) rfl rfl rfl hl.1 rfl (Nat.le_of_ble_eq_true rfl) dX4_greatestGroup_16 ⟨Nat.zero_le _, Nat.zero_le _⟩ rfl (bs' := [stC q cI beams speeds phases springs strikes ways kickSums nearTicks gives settings ticks kicks strikeTicks pulls leaders]) rfl (fun H locs hP hD hS => ?_)
    refine va_mmax hx hb (hml.trans hl.1.symm) hown (hw _ aw_337) (hw _ aw_338) (hw _ aw_43) (hw _ aw_339) (Nat.le_of_ble_eq_true rfl) (Nat.le_of_ble_eq_true rfl) (Nat.zero_le _) (Nat.zero_le _) dX4_greatestGroup_19 ?_
    refine lv_istore_n (lv' := [(1, .int (if s4 < (f_J6_bitCount_0f7a4 (f_X4_groupMask nearTicks settings i4)) then (f_J6_bitCount_0f7a4 (f_X4_groupMask nearTicks settings i4)) else s4)), (2, .int (nI i4)), (0, .ref (q 0))]) hx hb dX4_greatestGroup_22 rfl hl (by decide) rfl (fun ls hl => ?_)
    refine nv_iinc (k := 1) (lv' := [(2, .int (nI (i4 + 1))), (1, .int (if s4 < (f_J6_bitCount_0f7a4 (f_X4_groupMask nearTicks settings i4)) then (f_J6_bitCount_0f7a4 (f_X4_groupMask nearTicks settings i4)) else s4)), (0, .ref (q 0))]) hx hb i4 dX4_greatestGroup_23 hl rfl (by decide) rfl (fun ls hl => ?_)
    refine lv_goto (tgt := 4) hx hb dX4_greatestGroup_26 (by decide) ?_
    exact ih _ _ _ (lv_sub hl [0, 1, 2] rfl) hP hD hS
  · intro ls H locs hl hP hD hS
    refine lv_iload_n hx hb dX4_greatestGroup_4 rfl (lv_at hl 0 rfl) ?_
    refine lv_bipush (v := 8) hx hb dX4_greatestGroup_5 (by decide) ?_
    refine nv_ge hx hb 8 8 29 (by omega) (by omega) dX4_greatestGroup_7 (by decide) (fun _ => ?_) (fun hc => absurd hc (by omega))
    refine lv_iload_n hx hb dX4_greatestGroup_29 rfl (lv_at hl 1 rfl) ?_
    rw [← hQQ]; exact W.iret hx hb hr (ct_end (F := (f_X4_greatestGroup nearTicks settings)) (u := (it (L_X4_greatestGroup_4 nearTicks settings) 0 8 (0 : Int32))) (rf := (fun u => some (.int u))) (wf := (fun _ => [stC q cI beams speeds phases springs strikes ways kickSums nearTicks gives settings ticks kicks strikeTicks pulls leaders].flatten)) rfl rfl hP hD hS) hS.2.2 dX4_greatestGroup_30
set_option maxRecDepth 100000 in
set_option maxHeartbeats 4000000 in
theorem k_X4_pullsOfBeam (l : Launch) (G : va_G) (cI cS cL : ClassId) (q : Nat → Nat) (beams : Nat → Int32) (speeds : Nat → Int32) (phases : Nat → Int32) (springs : Nat → Int32) (strikes : Nat → Int32) (ways : Nat → Int32) (kickSums : Nat → Int32) (nearTicks : Nat → Int32) (gives : Nat → Int32) (settings : Nat → Int32) (ticks : Int32) (kicks : Int32) (strikeTicks : Int32) (pulls : Nat → Int32) (leaders : Nat → Int32) (b : Int32) : Ct l G (tyl cI cS cL) yX4_pullsOfBeam cX4_pullsOfBeam 4 (some (Jvm.ClassFile.FieldType.int)) 2 47 0 0 [.ref (q 0), .int b] [stC q cI beams speeds phases springs strikes ways kickSums nearTicks gives settings ticks kicks strikeTicks pulls leaders].flatten (f_X4_pullsOfBeam beams phases springs gives settings b) (fun u => some (.int u)) (fun _ => [stC q cI beams speeds phases springs strikes ways kickSums nearTicks gives settings ticks kicks strikeTicks pulls leaders].flatten) := by
  refine Ct.of (by decide +kernel) (Nat.le_of_ble_eq_true rfl) ?_
  intro p e s m args below meth c A ls hx hb hr hml hw hown hlocks hin hK hN hP hD hS hA hl
  have hown : s.vm.findClass RX4 = some m.cls := hown
  have X : Cx p s m args c cX4_pullsOfBeam 4 RX4 G (tyl cI cS cL) := ⟨hx, hb, hml, hown, hw, hK, hN⟩
  have hP : va_P G classes [stC q cI beams speeds phases springs strikes ways kickSums nearTicks gives settings ticks kicks strikeTicks pulls leaders].flatten s.heap := hP
  have hl : lv_has ls 4 [(0, .ref (q 0)), (1, .int b)] := hl
  generalize hQQ : MQ below _ args s 0 0 A = QQ
  refine lv_iconst (v := 0) hx hb dX4_pullsOfBeam_0 (by decide) ?_
  refine lv_istore_n (lv' := [(2, .int (0 : Int32)), (0, .ref (q 0)), (1, .int b)]) hx hb dX4_pullsOfBeam_1 rfl hl (by decide) rfl (fun ls hl => ?_)
  refine lv_iconst (v := 0) hx hb dX4_pullsOfBeam_2 (by decide) ?_
  refine lv_istore_n (lv' := [(3, .int (0 : Int32)), (2, .int (0 : Int32)), (0, .ref (q 0)), (1, .int b)]) hx hb dX4_pullsOfBeam_3 rfl hl (by decide) rfl (fun ls hl => ?_)
  refine it_loop (f := (L_X4_pullsOfBeam_4 beams phases springs gives settings b)) 8 (fun (i4 : Nat) (s4 : Int32) => ∀ (ls : Array Slot) (H : Heap) (locs : List Loc), lv_has ls 4 [(3, .int (nI i4)), (2, .int s4), (0, .ref (q 0)), (1, .int b)] → va_P G classes [stC q cI beams speeds phases springs strikes ways kickSums nearTicks gives settings ticks kicks strikeTicks pulls leaders].flatten H → va_D A [stC q cI beams speeds phases springs strikes ways kickSums nearTicks gives settings ticks kicks strikeTicks pulls leaders].flatten → va_S A s.heap H locs → W p l e ({ frames := 2, cells := 0, slots := 0, locals := 47 } : Room) s m args below meth c H locs 0 0 QQ (F0 m 4 ls [])) (fun i4 s4 hi4 ih => ?_) 8 0 (0 : Int32) (by omega) ?_ ls _ _ (lv_sub hl [0, 1, 2, 3] rfl) hP hD hS
  · intro ls H locs hl hP hD hS
    refine lv_iload_n hx hb dX4_pullsOfBeam_4 rfl (lv_at hl 0 rfl) ?_
    refine lv_bipush (v := 8) hx hb dX4_pullsOfBeam_5 (by decide) ?_
    refine nv_ge hx hb i4 8 33 (by omega) (by omega) dX4_pullsOfBeam_7 (by decide) (fun hc => absurd hc (by omega)) (fun _ => ?_)
    refine lv_aload_n hx hb dX4_pullsOfBeam_10 rfl (lv_at hl 2 rfl) ?_
    refine lv_iload_n hx hb dX4_pullsOfBeam_11 rfl (lv_at hl 0 rfl) ?_
    refine lv_iload_n hx hb dX4_pullsOfBeam_12 rfl (lv_at hl 3 rfl) ?_
    refine ct_callV (As := [.int (nI i4), .int b]) (rest := []) X hP hD hS hA (k_X4_hangsOn l G cI cS cL q beams speeds phases springs strikes ways kickSums nearTicks gives settings ticks kicks strikeTicks pulls leaders i4 b (by omega)) cp_X4_hangsOn aw_380 ⟨Nat.le_of_ble_eq_true rfl, Nat.le_of_ble_eq_true rfl⟩ [0] (cs := [stC q cI beams speeds phases springs strikes ways kickSums nearTicks gives settings ticks kicks strikeTicks pulls leaders]) rfl (by decide) (cs' := [stC q cI beams speeds phases springs strikes ways kickSums nearTicks gives settings ticks kicks strikeTicks pulls leaders]) rfl rfl 2 rfl rfl (q0 := 0) rfl rfl hl.1 rfl (Nat.le_of_ble_eq_true rfl) dX4_pullsOfBeam_13 ⟨Nat.zero_le _, Nat.zero_le _⟩ rfl (bs' := [stC q cI beams speeds phases springs strikes ways kickSums nearTicks gives settings ticks kicks strikeTicks pulls leaders]) rfl (fun H locs hP hD hS => ?_)
    have hM_7 : ∀ (v_6 : Int32) (ls : Array Slot) (H : Heap) (locs : List Loc), v_6 = (if (f_X4_hangsOn beams i4 b) = true then (s4 + (f_X4_pullOf beams phases springs gives settings i4)) else s4) → lv_has ls 4 [(2, .int v_6), (3, .int (nI i4)), (0, .ref (q 0)), (1, .int b)] → va_P G classes [stC q cI beams speeds phases springs strikes ways kickSums nearTicks gives settings ticks kicks strikeTicks pulls leaders].flatten H → va_D A [stC q cI beams speeds phases springs strikes ways kickSums nearTicks gives settings ticks kicks strikeTicks pulls leaders].flatten → va_S A s.heap H locs → W p l e ({ frames := 2, cells := 0, slots := 0, locals := 47 } : Room) s m args below meth c H locs 0 0 QQ (F0 m 27 ls []) := by
      intro v_6 ls H locs e_v_6 hl hP hD hS
      subst e_v_6
      refine nv_iinc (k := 1) (lv' := [(3, .int (nI (i4 + 1))), (2, .int (if (f_X4_hangsOn beams i4 b) = true then (s4 + (f_X4_pullOf beams phases springs gives settings i4)) else s4)), (0, .ref (q 0)), (1, .int b)]) hx hb i4 dX4_pullsOfBeam_27 hl rfl (by decide) rfl (fun ls hl => ?_)
      refine lv_goto (tgt := 4) hx hb dX4_pullsOfBeam_30 (by decide) ?_
      exact ih _ _ _ (lv_sub hl [0, 1, 2, 3] rfl) hP hD hS
    refine bv_ifeq hx hb (f_X4_hangsOn beams i4 b) 27 dX4_pullsOfBeam_16 (by decide) (fun c_3 => ?_) (fun c_3 => ?_)
    · exact hM_7 s4 _ _ _ (if_neg c_3).symm (lv_sub hl [1, 0, 2, 3] rfl) hP hD hS
    · refine lv_iload_n hx hb dX4_pullsOfBeam_19 rfl (lv_at hl 1 rfl) ?_
      refine lv_aload_n hx hb dX4_pullsOfBeam_20 rfl (lv_at hl 2 rfl) ?_
      refine lv_iload_n hx hb dX4_pullsOfBeam_21 rfl (lv_at hl 0 rfl) ?_
      refine ct_callV (As := [.int (nI i4)]) (rest := [.int s4]) X hP hD hS hA (k_X4_pullOf l G cI cS cL q beams speeds phases springs strikes ways kickSums nearTicks gives settings ticks kicks strikeTicks pulls leaders i4 (by omega)) cp_X4_pullOf aw_373 ⟨Nat.le_of_ble_eq_true rfl, Nat.le_of_ble_eq_true rfl⟩ [0] (cs := [stC q cI beams speeds phases springs strikes ways kickSums nearTicks gives settings ticks kicks strikeTicks pulls leaders]) rfl (by decide) (cs' := [stC q cI beams speeds phases springs strikes ways kickSums nearTicks gives settings ticks kicks strikeTicks pulls leaders]) rfl rfl 2 rfl rfl (q0 := 0) rfl rfl hl.1 rfl (Nat.le_of_ble_eq_true rfl) dX4_pullsOfBeam_22 ⟨Nat.zero_le _, Nat.zero_le _⟩ rfl (bs' := [stC q cI beams speeds phases springs strikes ways kickSums nearTicks gives settings ticks kicks strikeTicks pulls leaders]) rfl (fun H locs hP hD hS => ?_)
      refine lv_iadd hx hb dX4_pullsOfBeam_25 ?_
      refine lv_istore_n (lv' := [(2, .int (s4 + (f_X4_pullOf beams phases springs gives settings i4))), (3, .int (nI i4)), (0, .ref (q 0)), (1, .int b)]) hx hb dX4_pullsOfBeam_26 rfl hl (by decide) rfl (fun ls hl => ?_)
      exact hM_7 (s4 + (f_X4_pullOf beams phases springs gives settings i4)) _ _ _ (if_pos c_3).symm (lv_sub hl [0, 1, 2, 3] rfl) hP hD hS
  · intro ls H locs hl hP hD hS
    refine lv_iload_n hx hb dX4_pullsOfBeam_4 rfl (lv_at hl 0 rfl) ?_
    refine lv_bipush (v := 8) hx hb dX4_pullsOfBeam_5 (by decide) ?_
    refine nv_ge hx hb 8 8 33 (by omega) (by omega) dX4_pullsOfBeam_7 (by decide) (fun _ => ?_) (fun hc => absurd hc (by omega))
    refine lv_iload_n hx hb dX4_pullsOfBeam_33 rfl (lv_at hl 1 rfl) ?_
    rw [← hQQ]; exact W.iret hx hb hr (ct_end (F := (f_X4_pullsOfBeam beams phases springs gives settings b)) (u := (it (L_X4_pullsOfBeam_4 beams phases springs gives settings b) 0 8 (0 : Int32))) (rf := (fun u => some (.int u))) (wf := (fun _ => [stC q cI beams speeds phases springs strikes ways kickSums nearTicks gives settings ticks kicks strikeTicks pulls leaders].flatten)) rfl rfl hP hD hS) hS.2.2 dX4_pullsOfBeam_34
set_option maxRecDepth 100000 in
set_option maxHeartbeats 4000000 in
theorem k_X4_numberOfClock (l : Launch) (G : va_G) (cI cS cL : ClassId) (q : Nat → Nat) (beams : Nat → Int32) (speeds : Nat → Int32) (phases : Nat → Int32) (springs : Nat → Int32) (strikes : Nat → Int32) (ways : Nat → Int32) (kickSums : Nat → Int32) (nearTicks : Nat → Int32) (gives : Nat → Int32) (settings : Nat → Int32) (ticks : Int32) (kicks : Int32) (strikeTicks : Int32) (pulls : Nat → Int32) (leaders : Nat → Int32) (k : Nat) (what : Int32) (hk : k < 8) : Ct l G (tyl cI cS cL) yX4_numberOfClock cX4_numberOfClock 3 (some (Jvm.ClassFile.FieldType.int)) 4 92 0 0 [.ref (q 0), .int (nI k), .int what] [stC q cI beams speeds phases springs strikes ways kickSums nearTicks gives settings ticks kicks strikeTicks pulls leaders].flatten (f_X4_numberOfClock beams speeds phases springs strikes ways kickSums nearTicks gives settings k what) (fun u => some (.int u)) (fun _ => [stC q cI beams speeds phases springs strikes ways kickSums nearTicks gives settings ticks kicks strikeTicks pulls leaders].flatten) := by
  refine Ct.of (by decide +kernel) (Nat.le_of_ble_eq_true rfl) ?_
  intro p e s m args below meth c A ls hx hb hr hml hw hown hlocks hin hK hN hP hD hS hA hl
  have hown : s.vm.findClass RX4 = some m.cls := hown
  have X : Cx p s m args c cX4_numberOfClock 3 RX4 G (tyl cI cS cL) := ⟨hx, hb, hml, hown, hw, hK, hN⟩
  have hP : va_P G classes [stC q cI beams speeds phases springs strikes ways kickSums nearTicks gives settings ticks kicks strikeTicks pulls leaders].flatten s.heap := hP
  have hl : lv_has ls 3 [(0, .ref (q 0)), (1, .int (nI k)), (2, .int what)] := hl
  generalize hQQ : MQ below _ args s 0 0 A = QQ
  refine lv_iload_n hx hb dX4_numberOfClock_0 rfl (lv_at hl 2 rfl) ?_
  rcases Classical.em (what = 0) with c_1 | c_1
  · refine lv_tableIn (off := 55) (tgt := 56) hx hb dX4_numberOfClock_1 (by rw [c_1]; decide) (by rw [c_1]; decide) (by rw [c_1]; rfl) (by decide) ?_
    refine lv_aload_n hx hb dX4_numberOfClock_56 rfl (lv_at hl 0 rfl) ?_
    refine va_get (D := G) (ci := 2) (C := RX4) (T := TX4) (N := 15) hx hb hw in_X4 hown hK hP 0 rfl rfl 0 (by decide) (hw _ aw_66) (fun _ h9 => h9) rfl dX4_numberOfClock_57 ?_
    refine lv_iload_n hx hb dX4_numberOfClock_60 rfl (lv_at hl 1 rfl) ?_
    refine nv_iald hx hb hK hP 1 0 rfl rfl k (by omega) (by decide) dX4_numberOfClock_61 ?_
    rw [← hQQ]; exact W.iret hx hb hr (ct_end (F := (f_X4_numberOfClock beams speeds phases springs strikes ways kickSums nearTicks gives settings k what)) (u := (beams k)) (rf := (fun u => some (.int u))) (wf := (fun _ => [stC q cI beams speeds phases springs strikes ways kickSums nearTicks gives settings ticks kicks strikeTicks pulls leaders].flatten)) (by first | (unfold f_X4_numberOfClock; rw [if_pos c_1]; first | done | rfl) | (unfold f_X4_numberOfClock; simp only [if_pos c_1])) rfl hP hD hS) hS.2.2 dX4_numberOfClock_62
  rcases Classical.em (what = 1) with c_3 | c_3
  · refine lv_tableIn (off := 62) (tgt := 63) hx hb dX4_numberOfClock_1 (by rw [c_3]; decide) (by rw [c_3]; decide) (by rw [c_3]; rfl) (by decide) ?_
    refine lv_aload_n hx hb dX4_numberOfClock_63 rfl (lv_at hl 0 rfl) ?_
    refine va_get (D := G) (ci := 2) (C := RX4) (T := TX4) (N := 15) hx hb hw in_X4 hown hK hP 0 rfl rfl 1 (by decide) (hw _ aw_67) (fun _ h9 => h9) rfl dX4_numberOfClock_64 ?_
    refine lv_iload_n hx hb dX4_numberOfClock_67 rfl (lv_at hl 1 rfl) ?_
    refine nv_iald hx hb hK hP 2 0 rfl rfl k (by omega) (by decide) dX4_numberOfClock_68 ?_
    rw [← hQQ]; exact W.iret hx hb hr (ct_end (F := (f_X4_numberOfClock beams speeds phases springs strikes ways kickSums nearTicks gives settings k what)) (u := (speeds k)) (rf := (fun u => some (.int u))) (wf := (fun _ => [stC q cI beams speeds phases springs strikes ways kickSums nearTicks gives settings ticks kicks strikeTicks pulls leaders].flatten)) (by first | (unfold f_X4_numberOfClock; rw [if_neg c_1, if_pos c_3]; first | done | rfl) | (unfold f_X4_numberOfClock; simp only [if_neg c_1, if_pos c_3])) rfl hP hD hS) hS.2.2 dX4_numberOfClock_69
  rcases Classical.em (what = 2) with c_5 | c_5
  · refine lv_tableIn (off := 69) (tgt := 70) hx hb dX4_numberOfClock_1 (by rw [c_5]; decide) (by rw [c_5]; decide) (by rw [c_5]; rfl) (by decide) ?_
    refine lv_aload_n hx hb dX4_numberOfClock_70 rfl (lv_at hl 0 rfl) ?_
    refine va_get (D := G) (ci := 2) (C := RX4) (T := TX4) (N := 15) hx hb hw in_X4 hown hK hP 0 rfl rfl 2 (by decide) (hw _ aw_69) (fun _ h9 => h9) rfl dX4_numberOfClock_71 ?_
    refine lv_iload_n hx hb dX4_numberOfClock_74 rfl (lv_at hl 1 rfl) ?_
    refine nv_iald hx hb hK hP 3 0 rfl rfl k (by omega) (by decide) dX4_numberOfClock_75 ?_
    rw [← hQQ]; exact W.iret hx hb hr (ct_end (F := (f_X4_numberOfClock beams speeds phases springs strikes ways kickSums nearTicks gives settings k what)) (u := (phases k)) (rf := (fun u => some (.int u))) (wf := (fun _ => [stC q cI beams speeds phases springs strikes ways kickSums nearTicks gives settings ticks kicks strikeTicks pulls leaders].flatten)) (by first | (unfold f_X4_numberOfClock; rw [if_neg c_1, if_neg c_3, if_pos c_5]; first | done | rfl) | (unfold f_X4_numberOfClock; simp only [if_neg c_1, if_neg c_3, if_pos c_5])) rfl hP hD hS) hS.2.2 dX4_numberOfClock_76
  rcases Classical.em (what = 3) with c_7 | c_7
  · refine lv_tableIn (off := 76) (tgt := 77) hx hb dX4_numberOfClock_1 (by rw [c_7]; decide) (by rw [c_7]; decide) (by rw [c_7]; rfl) (by decide) ?_
    refine lv_aload_n hx hb dX4_numberOfClock_77 rfl (lv_at hl 0 rfl) ?_
    refine va_get (D := G) (ci := 2) (C := RX4) (T := TX4) (N := 15) hx hb hw in_X4 hown hK hP 0 rfl rfl 3 (by decide) (hw _ aw_71) (fun _ h9 => h9) rfl dX4_numberOfClock_78 ?_
    refine lv_iload_n hx hb dX4_numberOfClock_81 rfl (lv_at hl 1 rfl) ?_
    refine nv_iald hx hb hK hP 4 0 rfl rfl k (by omega) (by decide) dX4_numberOfClock_82 ?_
    rw [← hQQ]; exact W.iret hx hb hr (ct_end (F := (f_X4_numberOfClock beams speeds phases springs strikes ways kickSums nearTicks gives settings k what)) (u := (springs k)) (rf := (fun u => some (.int u))) (wf := (fun _ => [stC q cI beams speeds phases springs strikes ways kickSums nearTicks gives settings ticks kicks strikeTicks pulls leaders].flatten)) (by first | (unfold f_X4_numberOfClock; rw [if_neg c_1, if_neg c_3, if_neg c_5, if_pos c_7]; first | done | rfl) | (unfold f_X4_numberOfClock; simp only [if_neg c_1, if_neg c_3, if_neg c_5, if_pos c_7])) rfl hP hD hS) hS.2.2 dX4_numberOfClock_83
  rcases Classical.em (what = 4) with c_9 | c_9
  · refine lv_tableIn (off := 83) (tgt := 84) hx hb dX4_numberOfClock_1 (by rw [c_9]; decide) (by rw [c_9]; decide) (by rw [c_9]; rfl) (by decide) ?_
    refine lv_aload_n hx hb dX4_numberOfClock_84 rfl (lv_at hl 0 rfl) ?_
    refine va_get (D := G) (ci := 2) (C := RX4) (T := TX4) (N := 15) hx hb hw in_X4 hown hK hP 0 rfl rfl 4 (by decide) (hw _ aw_73) (fun _ h9 => h9) rfl dX4_numberOfClock_85 ?_
    refine lv_iload_n hx hb dX4_numberOfClock_88 rfl (lv_at hl 1 rfl) ?_
    refine nv_iald hx hb hK hP 5 0 rfl rfl k (by omega) (by decide) dX4_numberOfClock_89 ?_
    rw [← hQQ]; exact W.iret hx hb hr (ct_end (F := (f_X4_numberOfClock beams speeds phases springs strikes ways kickSums nearTicks gives settings k what)) (u := (strikes k)) (rf := (fun u => some (.int u))) (wf := (fun _ => [stC q cI beams speeds phases springs strikes ways kickSums nearTicks gives settings ticks kicks strikeTicks pulls leaders].flatten)) (by first | (unfold f_X4_numberOfClock; rw [if_neg c_1, if_neg c_3, if_neg c_5, if_neg c_7, if_pos c_9]; first | done | rfl) | (unfold f_X4_numberOfClock; simp only [if_neg c_1, if_neg c_3, if_neg c_5, if_neg c_7, if_pos c_9])) rfl hP hD hS) hS.2.2 dX4_numberOfClock_90
  rcases Classical.em (what = 5) with c_11 | c_11
  · refine lv_tableIn (off := 90) (tgt := 91) hx hb dX4_numberOfClock_1 (by rw [c_11]; decide) (by rw [c_11]; decide) (by rw [c_11]; rfl) (by decide) ?_
    refine lv_aload_n hx hb dX4_numberOfClock_91 rfl (lv_at hl 0 rfl) ?_
    refine lv_iload_n hx hb dX4_numberOfClock_92 rfl (lv_at hl 1 rfl) ?_
    refine ct_callV (As := [.int (nI k)]) (rest := []) X hP hD hS hA (k_X4_pullOf l G cI cS cL q beams speeds phases springs strikes ways kickSums nearTicks gives settings ticks kicks strikeTicks pulls leaders k (by omega)) cp_X4_pullOf aw_373 ⟨Nat.le_of_ble_eq_true rfl, Nat.le_of_ble_eq_true rfl⟩ [0] (cs := [stC q cI beams speeds phases springs strikes ways kickSums nearTicks gives settings ticks kicks strikeTicks pulls leaders]) rfl (by decide) (cs' := [stC q cI beams speeds phases springs strikes ways kickSums nearTicks gives settings ticks kicks strikeTicks pulls leaders]) rfl rfl 2 rfl rfl (q0 := 0) rfl rfl hl.1 rfl (Nat.le_of_ble_eq_true rfl) dX4_numberOfClock_93 ⟨Nat.zero_le _, Nat.zero_le _⟩ rfl (bs' := [stC q cI beams speeds phases springs strikes ways kickSums nearTicks gives settings ticks kicks strikeTicks pulls leaders]) rfl (fun H locs hP hD hS => ?_)
    rw [← hQQ]; exact W.iret hx hb hr (ct_end (F := (f_X4_numberOfClock beams speeds phases springs strikes ways kickSums nearTicks gives settings k what)) (u := (f_X4_pullOf beams phases springs gives settings k)) (rf := (fun u => some (.int u))) (wf := (fun _ => [stC q cI beams speeds phases springs strikes ways kickSums nearTicks gives settings ticks kicks strikeTicks pulls leaders].flatten)) (by first | (unfold f_X4_numberOfClock; rw [if_neg c_1, if_neg c_3, if_neg c_5, if_neg c_7, if_neg c_9, if_pos c_11]; first | done | rfl) | (unfold f_X4_numberOfClock; simp only [if_neg c_1, if_neg c_3, if_neg c_5, if_neg c_7, if_neg c_9, if_pos c_11])) rfl hP hD hS) hS.2.2 dX4_numberOfClock_96
  rcases Classical.em (what = 6) with c_13 | c_13
  · refine lv_tableIn (off := 96) (tgt := 97) hx hb dX4_numberOfClock_1 (by rw [c_13]; decide) (by rw [c_13]; decide) (by rw [c_13]; rfl) (by decide) ?_
    refine lv_aload_n hx hb dX4_numberOfClock_97 rfl (lv_at hl 0 rfl) ?_
    refine va_get (D := G) (ci := 2) (C := RX4) (T := TX4) (N := 15) hx hb hw in_X4 hown hK hP 0 rfl rfl 5 (by decide) (hw _ aw_75) (fun _ h9 => h9) rfl dX4_numberOfClock_98 ?_
    refine lv_iload_n hx hb dX4_numberOfClock_101 rfl (lv_at hl 1 rfl) ?_
    refine nv_iald hx hb hK hP 6 0 rfl rfl k (by omega) (by decide) dX4_numberOfClock_102 ?_
    rw [← hQQ]; exact W.iret hx hb hr (ct_end (F := (f_X4_numberOfClock beams speeds phases springs strikes ways kickSums nearTicks gives settings k what)) (u := (ways k)) (rf := (fun u => some (.int u))) (wf := (fun _ => [stC q cI beams speeds phases springs strikes ways kickSums nearTicks gives settings ticks kicks strikeTicks pulls leaders].flatten)) (by first | (unfold f_X4_numberOfClock; rw [if_neg c_1, if_neg c_3, if_neg c_5, if_neg c_7, if_neg c_9, if_neg c_11, if_pos c_13]; first | done | rfl) | (unfold f_X4_numberOfClock; simp only [if_neg c_1, if_neg c_3, if_neg c_5, if_neg c_7, if_neg c_9, if_neg c_11, if_pos c_13])) rfl hP hD hS) hS.2.2 dX4_numberOfClock_103
  rcases Classical.em (what = 7) with c_15 | c_15
  · refine lv_tableIn (off := 103) (tgt := 104) hx hb dX4_numberOfClock_1 (by rw [c_15]; decide) (by rw [c_15]; decide) (by rw [c_15]; rfl) (by decide) ?_
    refine lv_aload_n hx hb dX4_numberOfClock_104 rfl (lv_at hl 0 rfl) ?_
    refine va_get (D := G) (ci := 2) (C := RX4) (T := TX4) (N := 15) hx hb hw in_X4 hown hK hP 0 rfl rfl 6 (by decide) (hw _ aw_76) (fun _ h9 => h9) rfl dX4_numberOfClock_105 ?_
    refine lv_iload_n hx hb dX4_numberOfClock_108 rfl (lv_at hl 1 rfl) ?_
    refine nv_iald hx hb hK hP 7 0 rfl rfl k (by omega) (by decide) dX4_numberOfClock_109 ?_
    rw [← hQQ]; exact W.iret hx hb hr (ct_end (F := (f_X4_numberOfClock beams speeds phases springs strikes ways kickSums nearTicks gives settings k what)) (u := (kickSums k)) (rf := (fun u => some (.int u))) (wf := (fun _ => [stC q cI beams speeds phases springs strikes ways kickSums nearTicks gives settings ticks kicks strikeTicks pulls leaders].flatten)) (by first | (unfold f_X4_numberOfClock; rw [if_neg c_1, if_neg c_3, if_neg c_5, if_neg c_7, if_neg c_9, if_neg c_11, if_neg c_13, if_pos c_15]; first | done | rfl) | (unfold f_X4_numberOfClock; simp only [if_neg c_1, if_neg c_3, if_neg c_5, if_neg c_7, if_neg c_9, if_neg c_11, if_neg c_13, if_pos c_15])) rfl hP hD hS) hS.2.2 dX4_numberOfClock_110
  rcases Classical.em (what = 8) with c_17 | c_17
  · refine lv_tableIn (off := 110) (tgt := 111) hx hb dX4_numberOfClock_1 (by rw [c_17]; decide) (by rw [c_17]; decide) (by rw [c_17]; rfl) (by decide) ?_
    refine lv_aload_n hx hb dX4_numberOfClock_111 rfl (lv_at hl 0 rfl) ?_
    refine lv_iload_n hx hb dX4_numberOfClock_112 rfl (lv_at hl 1 rfl) ?_
    refine ct_callV (As := [.int (nI k)]) (rest := []) X hP hD hS hA (k_X4_lockedMask l G cI cS cL q beams speeds phases springs strikes ways kickSums nearTicks gives settings ticks kicks strikeTicks pulls leaders k (by omega)) cp_X4_lockedMask aw_329 ⟨Nat.le_of_ble_eq_true rfl, Nat.le_of_ble_eq_true rfl⟩ [0] (cs := [stC q cI beams speeds phases springs strikes ways kickSums nearTicks gives settings ticks kicks strikeTicks pulls leaders]) rfl (by decide) (cs' := [stC q cI beams speeds phases springs strikes ways kickSums nearTicks gives settings ticks kicks strikeTicks pulls leaders]) rfl rfl 2 rfl rfl (q0 := 0) rfl rfl hl.1 rfl (Nat.le_of_ble_eq_true rfl) dX4_numberOfClock_113 ⟨Nat.zero_le _, Nat.zero_le _⟩ rfl (bs' := [stC q cI beams speeds phases springs strikes ways kickSums nearTicks gives settings ticks kicks strikeTicks pulls leaders]) rfl (fun H locs hP hD hS => ?_)
    rw [← hQQ]; exact W.iret hx hb hr (ct_end (F := (f_X4_numberOfClock beams speeds phases springs strikes ways kickSums nearTicks gives settings k what)) (u := (f_X4_lockedMask nearTicks settings k)) (rf := (fun u => some (.int u))) (wf := (fun _ => [stC q cI beams speeds phases springs strikes ways kickSums nearTicks gives settings ticks kicks strikeTicks pulls leaders].flatten)) (by first | (unfold f_X4_numberOfClock; rw [if_neg c_1, if_neg c_3, if_neg c_5, if_neg c_7, if_neg c_9, if_neg c_11, if_neg c_13, if_neg c_15, if_pos c_17]; first | done | rfl) | (unfold f_X4_numberOfClock; simp only [if_neg c_1, if_neg c_3, if_neg c_5, if_neg c_7, if_neg c_9, if_neg c_11, if_neg c_13, if_neg c_15, if_pos c_17])) rfl hP hD hS) hS.2.2 dX4_numberOfClock_116
  rcases Classical.em (what = 9) with c_19 | c_19
  · refine lv_tableIn (off := 116) (tgt := 117) hx hb dX4_numberOfClock_1 (by rw [c_19]; decide) (by rw [c_19]; decide) (by rw [c_19]; rfl) (by decide) ?_
    refine lv_aload_n hx hb dX4_numberOfClock_117 rfl (lv_at hl 0 rfl) ?_
    refine lv_iload_n hx hb dX4_numberOfClock_118 rfl (lv_at hl 1 rfl) ?_
    refine ct_callV (As := [.int (nI k)]) (rest := []) X hP hD hS hA (k_X4_lowestOfGroup l G cI cS cL q beams speeds phases springs strikes ways kickSums nearTicks gives settings ticks kicks strikeTicks pulls leaders k (by omega)) cp_X4_lowestOfGroup aw_391 ⟨Nat.le_of_ble_eq_true rfl, Nat.le_of_ble_eq_true rfl⟩ [0] (cs := [stC q cI beams speeds phases springs strikes ways kickSums nearTicks gives settings ticks kicks strikeTicks pulls leaders]) rfl (by decide) (cs' := [stC q cI beams speeds phases springs strikes ways kickSums nearTicks gives settings ticks kicks strikeTicks pulls leaders]) rfl rfl 2 rfl rfl (q0 := 0) rfl rfl hl.1 rfl (Nat.le_of_ble_eq_true rfl) dX4_numberOfClock_119 ⟨Nat.zero_le _, Nat.zero_le _⟩ rfl (bs' := [stC q cI beams speeds phases springs strikes ways kickSums nearTicks gives settings ticks kicks strikeTicks pulls leaders]) rfl (fun H locs hP hD hS => ?_)
    rw [← hQQ]; exact W.iret hx hb hr (ct_end (F := (f_X4_numberOfClock beams speeds phases springs strikes ways kickSums nearTicks gives settings k what)) (u := (f_X4_lowestOfGroup nearTicks settings k)) (rf := (fun u => some (.int u))) (wf := (fun _ => [stC q cI beams speeds phases springs strikes ways kickSums nearTicks gives settings ticks kicks strikeTicks pulls leaders].flatten)) (by first | (unfold f_X4_numberOfClock; rw [if_neg c_1, if_neg c_3, if_neg c_5, if_neg c_7, if_neg c_9, if_neg c_11, if_neg c_13, if_neg c_15, if_neg c_17, if_pos c_19]; first | done | rfl) | (unfold f_X4_numberOfClock; simp only [if_neg c_1, if_neg c_3, if_neg c_5, if_neg c_7, if_neg c_9, if_neg c_11, if_neg c_13, if_neg c_15, if_neg c_17, if_pos c_19])) rfl hP hD hS) hS.2.2 dX4_numberOfClock_122
  refine lv_tableOut (tgt := 123) hx hb dX4_numberOfClock_1 (sw_out (lo := 0) (hi := 9) (fun j h1 h2 => by
      have h3 : j = 0 ∨ j = 1 ∨ j = 2 ∨ j = 3 ∨ j = 4 ∨ j = 5 ∨ j = 6 ∨ j = 7 ∨ j = 8 ∨ j = 9 := by omega
      rcases h3 with rfl | rfl | rfl | rfl | rfl | rfl | rfl | rfl | rfl | rfl
      · exact c_1
      · exact c_3
      · exact c_5
      · exact c_7
      · exact c_9
      · exact c_11
      · exact c_13
      · exact c_15
      · exact c_17
      · exact c_19)) (by decide) ?_
  refine lv_aload_n hx hb dX4_numberOfClock_123 rfl (lv_at hl 0 rfl) ?_
  refine lv_iload_n hx hb dX4_numberOfClock_124 rfl (lv_at hl 1 rfl) ?_
  refine ct_callV (As := [.int (nI k)]) (rest := []) X hP hD hS hA (k_X4_groupMask l G cI cS cL q beams speeds phases springs strikes ways kickSums nearTicks gives settings ticks kicks strikeTicks pulls leaders k (by omega)) cp_X4_groupMask aw_325 ⟨Nat.le_of_ble_eq_true rfl, Nat.le_of_ble_eq_true rfl⟩ [0] (cs := [stC q cI beams speeds phases springs strikes ways kickSums nearTicks gives settings ticks kicks strikeTicks pulls leaders]) rfl (by decide) (cs' := [stC q cI beams speeds phases springs strikes ways kickSums nearTicks gives settings ticks kicks strikeTicks pulls leaders]) rfl rfl 2 rfl rfl (q0 := 0) rfl rfl hl.1 rfl (Nat.le_of_ble_eq_true rfl) dX4_numberOfClock_125 ⟨Nat.zero_le _, Nat.zero_le _⟩ rfl (bs' := [stC q cI beams speeds phases springs strikes ways kickSums nearTicks gives settings ticks kicks strikeTicks pulls leaders]) rfl (fun H locs hP hD hS => ?_)
  rw [← hQQ]; exact W.iret hx hb hr (ct_end (F := (f_X4_numberOfClock beams speeds phases springs strikes ways kickSums nearTicks gives settings k what)) (u := (f_X4_groupMask nearTicks settings k)) (rf := (fun u => some (.int u))) (wf := (fun _ => [stC q cI beams speeds phases springs strikes ways kickSums nearTicks gives settings ticks kicks strikeTicks pulls leaders].flatten)) (by first | (unfold f_X4_numberOfClock; rw [if_neg c_1, if_neg c_3, if_neg c_5, if_neg c_7, if_neg c_9, if_neg c_11, if_neg c_13, if_neg c_15, if_neg c_17, if_neg c_19]; first | done | rfl) | (unfold f_X4_numberOfClock; simp only [if_neg c_1, if_neg c_3, if_neg c_5, if_neg c_7, if_neg c_9, if_neg c_11, if_neg c_13, if_neg c_15, if_neg c_17, if_neg c_19])) rfl hP hD hS) hS.2.2 dX4_numberOfClock_128
set_option maxRecDepth 100000 in
set_option maxHeartbeats 4000000 in
theorem k_X4_numberOfPair (l : Launch) (G : va_G) (cI cS cL : ClassId) (q : Nat → Nat) (beams : Nat → Int32) (speeds : Nat → Int32) (phases : Nat → Int32) (springs : Nat → Int32) (strikes : Nat → Int32) (ways : Nat → Int32) (kickSums : Nat → Int32) (nearTicks : Nat → Int32) (gives : Nat → Int32) (settings : Nat → Int32) (ticks : Int32) (kicks : Int32) (strikeTicks : Int32) (pulls : Nat → Int32) (leaders : Nat → Int32) (k : Nat) (o : Nat) (what : Int32) (hk : k < 8) (ho : o < 8) : Ct l G (tyl cI cS cL) yX4_numberOfPair cX4_numberOfPair 4 (some (Jvm.ClassFile.FieldType.int)) 3 67 0 0 [.ref (q 0), .int (nI k), .int (nI o), .int what] [stC q cI beams speeds phases springs strikes ways kickSums nearTicks gives settings ticks kicks strikeTicks pulls leaders].flatten (f_X4_numberOfPair beams phases springs nearTicks settings k o what) (fun u => some (.int u)) (fun _ => [stC q cI beams speeds phases springs strikes ways kickSums nearTicks gives settings ticks kicks strikeTicks pulls leaders].flatten) := by
  refine Ct.of (by decide +kernel) (Nat.le_of_ble_eq_true rfl) ?_
  intro p e s m args below meth c A ls hx hb hr hml hw hown hlocks hin hK hN hP hD hS hA hl
  have hown : s.vm.findClass RX4 = some m.cls := hown
  have X : Cx p s m args c cX4_numberOfPair 4 RX4 G (tyl cI cS cL) := ⟨hx, hb, hml, hown, hw, hK, hN⟩
  have hP : va_P G classes [stC q cI beams speeds phases springs strikes ways kickSums nearTicks gives settings ticks kicks strikeTicks pulls leaders].flatten s.heap := hP
  have hl : lv_has ls 4 [(0, .ref (q 0)), (1, .int (nI k)), (2, .int (nI o)), (3, .int what)] := hl
  generalize hQQ : MQ below _ args s 0 0 A = QQ
  refine lv_iload_n hx hb dX4_numberOfPair_0 rfl (lv_at hl 3 rfl) ?_
  rcases Classical.em (what = 0) with c_1 | c_1
  · refine lv_lookup (off := 27) (tgt := 28) hx hb dX4_numberOfPair_1 (by decide) (by rw [c_1]; rfl) (by decide) ?_
    refine lv_aload_n hx hb dX4_numberOfPair_28 rfl (lv_at hl 0 rfl) ?_
    refine lv_iload_n hx hb dX4_numberOfPair_29 rfl (lv_at hl 1 rfl) ?_
    refine lv_iload_n hx hb dX4_numberOfPair_30 rfl (lv_at hl 2 rfl) ?_
    refine ct_callV (As := [.int (nI k), .int (nI o)]) (rest := []) X hP hD hS hA (k_X4_gapFrom l G cI cS cL q beams speeds phases springs strikes ways kickSums nearTicks gives settings ticks kicks strikeTicks pulls leaders k o (by omega) (by omega)) cp_X4_gapFrom aw_384 ⟨Nat.le_of_ble_eq_true rfl, Nat.le_of_ble_eq_true rfl⟩ [0] (cs := [stC q cI beams speeds phases springs strikes ways kickSums nearTicks gives settings ticks kicks strikeTicks pulls leaders]) rfl (by decide) (cs' := [stC q cI beams speeds phases springs strikes ways kickSums nearTicks gives settings ticks kicks strikeTicks pulls leaders]) rfl rfl 2 rfl rfl (q0 := 0) rfl rfl hl.1 rfl (Nat.le_of_ble_eq_true rfl) dX4_numberOfPair_31 ⟨Nat.zero_le _, Nat.zero_le _⟩ rfl (bs' := [stC q cI beams speeds phases springs strikes ways kickSums nearTicks gives settings ticks kicks strikeTicks pulls leaders]) rfl (fun H locs hP hD hS => ?_)
    rw [← hQQ]; exact W.iret hx hb hr (ct_end (F := (f_X4_numberOfPair beams phases springs nearTicks settings k o what)) (u := (f_X4_gapFrom phases k o)) (rf := (fun u => some (.int u))) (wf := (fun _ => [stC q cI beams speeds phases springs strikes ways kickSums nearTicks gives settings ticks kicks strikeTicks pulls leaders].flatten)) (by first | (unfold f_X4_numberOfPair; rw [if_pos c_1]; first | done | rfl) | (unfold f_X4_numberOfPair; simp only [if_pos c_1])) rfl hP hD hS) hS.2.2 dX4_numberOfPair_34
  rcases Classical.em (what = 1) with c_3 | c_3
  · refine lv_lookup (off := 34) (tgt := 35) hx hb dX4_numberOfPair_1 (by decide) (by rw [c_3]; rfl) (by decide) ?_
    refine lv_aload_n hx hb dX4_numberOfPair_35 rfl (lv_at hl 0 rfl) ?_
    refine va_get (D := G) (ci := 2) (C := RX4) (T := TX4) (N := 15) hx hb hw in_X4 hown hK hP 0 rfl rfl 7 (by decide) (hw _ aw_77) (fun _ h9 => h9) rfl dX4_numberOfPair_36 ?_
    refine lv_iload_n hx hb dX4_numberOfPair_39 rfl (lv_at hl 1 rfl) ?_
    refine lv_bipush (v := 8) hx hb dX4_numberOfPair_40 (by decide) ?_
    refine nv_imul hx hb k 8 dX4_numberOfPair_42 ?_
    refine lv_iload_n hx hb dX4_numberOfPair_43 rfl (lv_at hl 2 rfl) ?_
    refine nv_iadd hx hb (k * 8) o dX4_numberOfPair_44 ?_
    refine nv_iald hx hb hK hP 8 0 rfl rfl ((k * 8) + o) (by omega) (by decide) dX4_numberOfPair_45 ?_
    rw [← hQQ]; exact W.iret hx hb hr (ct_end (F := (f_X4_numberOfPair beams phases springs nearTicks settings k o what)) (u := (nearTicks ((k * 8) + o))) (rf := (fun u => some (.int u))) (wf := (fun _ => [stC q cI beams speeds phases springs strikes ways kickSums nearTicks gives settings ticks kicks strikeTicks pulls leaders].flatten)) (by first | (unfold f_X4_numberOfPair; rw [if_neg c_1, if_pos c_3]; first | done | rfl) | (unfold f_X4_numberOfPair; simp only [if_neg c_1, if_pos c_3])) rfl hP hD hS) hS.2.2 dX4_numberOfPair_46
  refine lv_lookup (off := 46) (tgt := 47) hx hb dX4_numberOfPair_1 (by decide) ((lv_osw c_1 rfl).trans ((lv_osw c_3 rfl).trans rfl)) (by decide) ?_
  refine lv_aload_n hx hb dX4_numberOfPair_47 rfl (lv_at hl 0 rfl) ?_
  refine lv_iload_n hx hb dX4_numberOfPair_48 rfl (lv_at hl 1 rfl) ?_
  refine lv_iload_n hx hb dX4_numberOfPair_49 rfl (lv_at hl 2 rfl) ?_
  refine ct_callV (As := [.int (nI k), .int (nI o)]) (rest := []) X hP hD hS hA (k_X4_whyNotLocked l G cI cS cL q beams speeds phases springs strikes ways kickSums nearTicks gives settings ticks kicks strikeTicks pulls leaders k o (by omega) (by omega)) cp_X4_whyNotLocked aw_412 ⟨Nat.le_of_ble_eq_true rfl, Nat.le_of_ble_eq_true rfl⟩ [0] (cs := [stC q cI beams speeds phases springs strikes ways kickSums nearTicks gives settings ticks kicks strikeTicks pulls leaders]) rfl (by decide) (cs' := [stC q cI beams speeds phases springs strikes ways kickSums nearTicks gives settings ticks kicks strikeTicks pulls leaders]) rfl rfl 2 rfl rfl (q0 := 0) rfl rfl hl.1 rfl (Nat.le_of_ble_eq_true rfl) dX4_numberOfPair_50 ⟨Nat.zero_le _, Nat.zero_le _⟩ rfl (bs' := [stC q cI beams speeds phases springs strikes ways kickSums nearTicks gives settings ticks kicks strikeTicks pulls leaders]) rfl (fun H locs hP hD hS => ?_)
  rw [← hQQ]; exact W.iret hx hb hr (ct_end (F := (f_X4_numberOfPair beams phases springs nearTicks settings k o what)) (u := (f_X4_whyNotLocked beams phases springs nearTicks settings k o)) (rf := (fun u => some (.int u))) (wf := (fun _ => [stC q cI beams speeds phases springs strikes ways kickSums nearTicks gives settings ticks kicks strikeTicks pulls leaders].flatten)) (by first | (unfold f_X4_numberOfPair; rw [if_neg c_1, if_neg c_3]; first | done | rfl) | (unfold f_X4_numberOfPair; simp only [if_neg c_1, if_neg c_3])) rfl hP hD hS) hS.2.2 dX4_numberOfPair_53
set_option maxRecDepth 100000 in
set_option maxHeartbeats 4000000 in
theorem k_X4_numberOfBeam (l : Launch) (G : va_G) (cI cS cL : ClassId) (q : Nat → Nat) (beams : Nat → Int32) (speeds : Nat → Int32) (phases : Nat → Int32) (springs : Nat → Int32) (strikes : Nat → Int32) (ways : Nat → Int32) (kickSums : Nat → Int32) (nearTicks : Nat → Int32) (gives : Nat → Int32) (settings : Nat → Int32) (ticks : Int32) (kicks : Int32) (strikeTicks : Int32) (pulls : Nat → Int32) (leaders : Nat → Int32) (b : Int32) (what : Int32) (hb3 : vp_in b 3) : Ct l G (tyl cI cS cL) yX4_numberOfBeam cX4_numberOfBeam 3 (some (Jvm.ClassFile.FieldType.int)) 3 70 0 0 [.ref (q 0), .int b, .int what] [stC q cI beams speeds phases springs strikes ways kickSums nearTicks gives settings ticks kicks strikeTicks pulls leaders].flatten (f_X4_numberOfBeam beams phases springs gives settings b what) (fun u => some (.int u)) (fun _ => [stC q cI beams speeds phases springs strikes ways kickSums nearTicks gives settings ticks kicks strikeTicks pulls leaders].flatten) := by
  refine Ct.of (by decide +kernel) (Nat.le_of_ble_eq_true rfl) ?_
  intro p e s m args below meth c A ls hx hb hr hml hw hown hlocks hin hK hN hP hD hS hA hl
  have hown : s.vm.findClass RX4 = some m.cls := hown
  have X : Cx p s m args c cX4_numberOfBeam 3 RX4 G (tyl cI cS cL) := ⟨hx, hb, hml, hown, hw, hK, hN⟩
  have hP : va_P G classes [stC q cI beams speeds phases springs strikes ways kickSums nearTicks gives settings ticks kicks strikeTicks pulls leaders].flatten s.heap := hP
  have hl : lv_has ls 3 [(0, .ref (q 0)), (1, .int b), (2, .int what)] := hl
  generalize hQQ : MQ below _ args s 0 0 A = QQ
  refine lv_iload_n hx hb dX4_numberOfBeam_0 rfl (lv_at hl 2 rfl) ?_
  rcases Classical.em (what = 0) with c_1 | c_1
  · refine lv_tableIn (off := 31) (tgt := 32) hx hb dX4_numberOfBeam_1 (by rw [c_1]; decide) (by rw [c_1]; decide) (by rw [c_1]; rfl) (by decide) ?_
    refine lv_aload_n hx hb dX4_numberOfBeam_32 rfl (lv_at hl 0 rfl) ?_
    refine va_get (D := G) (ci := 2) (C := RX4) (T := TX4) (N := 15) hx hb hw in_X4 hown hK hP 0 rfl rfl 8 (by decide) (hw _ aw_78) (fun _ h9 => h9) rfl dX4_numberOfBeam_33 ?_
    refine lv_iload_n hx hb dX4_numberOfBeam_36 rfl (lv_at hl 1 rfl) ?_
    refine va_iald hx hb hK hP 9 0 rfl rfl (by assumption) dX4_numberOfBeam_37 ?_
    rw [← hQQ]; exact W.iret hx hb hr (ct_end (F := (f_X4_numberOfBeam beams phases springs gives settings b what)) (u := (gives b.toNatClampNeg)) (rf := (fun u => some (.int u))) (wf := (fun _ => [stC q cI beams speeds phases springs strikes ways kickSums nearTicks gives settings ticks kicks strikeTicks pulls leaders].flatten)) (by first | (unfold f_X4_numberOfBeam; rw [if_pos c_1]; first | done | rfl) | (unfold f_X4_numberOfBeam; simp only [if_pos c_1])) rfl hP hD hS) hS.2.2 dX4_numberOfBeam_38
  rcases Classical.em (what = 1) with c_3 | c_3
  · refine lv_tableIn (off := 38) (tgt := 39) hx hb dX4_numberOfBeam_1 (by rw [c_3]; decide) (by rw [c_3]; decide) (by rw [c_3]; rfl) (by decide) ?_
    refine lv_aload_n hx hb dX4_numberOfBeam_39 rfl (lv_at hl 0 rfl) ?_
    refine lv_iload_n hx hb dX4_numberOfBeam_40 rfl (lv_at hl 1 rfl) ?_
    refine ct_callV (As := [.int b]) (rest := []) X hP hD hS hA (k_X4_maskOfBeam l G cI cS cL q beams speeds phases springs strikes ways kickSums nearTicks gives settings ticks kicks strikeTicks pulls leaders b) cp_X4_maskOfBeam aw_442 ⟨Nat.le_of_ble_eq_true rfl, Nat.le_of_ble_eq_true rfl⟩ [0] (cs := [stC q cI beams speeds phases springs strikes ways kickSums nearTicks gives settings ticks kicks strikeTicks pulls leaders]) rfl (by decide) (cs' := [stC q cI beams speeds phases springs strikes ways kickSums nearTicks gives settings ticks kicks strikeTicks pulls leaders]) rfl rfl 2 rfl rfl (q0 := 0) rfl rfl hl.1 rfl (Nat.le_of_ble_eq_true rfl) dX4_numberOfBeam_41 ⟨Nat.zero_le _, Nat.zero_le _⟩ rfl (bs' := [stC q cI beams speeds phases springs strikes ways kickSums nearTicks gives settings ticks kicks strikeTicks pulls leaders]) rfl (fun H locs hP hD hS => ?_)
    rw [← hQQ]; exact W.iret hx hb hr (ct_end (F := (f_X4_numberOfBeam beams phases springs gives settings b what)) (u := (f_X4_maskOfBeam beams b)) (rf := (fun u => some (.int u))) (wf := (fun _ => [stC q cI beams speeds phases springs strikes ways kickSums nearTicks gives settings ticks kicks strikeTicks pulls leaders].flatten)) (by first | (unfold f_X4_numberOfBeam; rw [if_neg c_1, if_pos c_3]; first | done | rfl) | (unfold f_X4_numberOfBeam; simp only [if_neg c_1, if_pos c_3])) rfl hP hD hS) hS.2.2 dX4_numberOfBeam_44
  rcases Classical.em (what = 2) with c_5 | c_5
  · refine lv_tableIn (off := 44) (tgt := 45) hx hb dX4_numberOfBeam_1 (by rw [c_5]; decide) (by rw [c_5]; decide) (by rw [c_5]; rfl) (by decide) ?_
    refine lv_aload_n hx hb dX4_numberOfBeam_45 rfl (lv_at hl 0 rfl) ?_
    refine lv_iload_n hx hb dX4_numberOfBeam_46 rfl (lv_at hl 1 rfl) ?_
    refine ct_callV (As := [.int b]) (rest := []) X hP hD hS hA (k_X4_maskOfBeam l G cI cS cL q beams speeds phases springs strikes ways kickSums nearTicks gives settings ticks kicks strikeTicks pulls leaders b) cp_X4_maskOfBeam aw_442 ⟨Nat.le_of_ble_eq_true rfl, Nat.le_of_ble_eq_true rfl⟩ [0] (cs := [stC q cI beams speeds phases springs strikes ways kickSums nearTicks gives settings ticks kicks strikeTicks pulls leaders]) rfl (by decide) (cs' := [stC q cI beams speeds phases springs strikes ways kickSums nearTicks gives settings ticks kicks strikeTicks pulls leaders]) rfl rfl 2 rfl rfl (q0 := 0) rfl rfl hl.1 rfl (Nat.le_of_ble_eq_true rfl) dX4_numberOfBeam_47 ⟨Nat.zero_le _, Nat.zero_le _⟩ rfl (bs' := [stC q cI beams speeds phases springs strikes ways kickSums nearTicks gives settings ticks kicks strikeTicks pulls leaders]) rfl (fun H locs hP hD hS => ?_)
    refine lv_aload_n hx hb dX4_numberOfBeam_50 rfl (lv_at hl 0 rfl) ?_
    refine ct_callV (As := []) (rest := [.int (f_X4_maskOfBeam beams b)]) X hP hD hS hA (k_X4_goingMask l G cI cS cL q beams speeds phases springs strikes ways kickSums nearTicks gives settings ticks kicks strikeTicks pulls leaders) cp_X4_goingMask aw_288 ⟨Nat.le_of_ble_eq_true rfl, Nat.le_of_ble_eq_true rfl⟩ [0] (cs := [stC q cI beams speeds phases springs strikes ways kickSums nearTicks gives settings ticks kicks strikeTicks pulls leaders]) rfl (by decide) (cs' := [stC q cI beams speeds phases springs strikes ways kickSums nearTicks gives settings ticks kicks strikeTicks pulls leaders]) rfl rfl 2 rfl rfl (q0 := 0) rfl rfl hl.1 rfl (Nat.le_of_ble_eq_true rfl) dX4_numberOfBeam_51 ⟨Nat.zero_le _, Nat.zero_le _⟩ rfl (bs' := [stC q cI beams speeds phases springs strikes ways kickSums nearTicks gives settings ticks kicks strikeTicks pulls leaders]) rfl (fun H locs hP hD hS => ?_)
    refine lv_iand hx hb dX4_numberOfBeam_54 ?_
    rw [← hQQ]; exact W.iret hx hb hr (ct_end (F := (f_X4_numberOfBeam beams phases springs gives settings b what)) (u := ((f_X4_maskOfBeam beams b) &&& (f_X4_goingMask springs))) (rf := (fun u => some (.int u))) (wf := (fun _ => [stC q cI beams speeds phases springs strikes ways kickSums nearTicks gives settings ticks kicks strikeTicks pulls leaders].flatten)) (by first | (unfold f_X4_numberOfBeam; rw [if_neg c_1, if_neg c_3, if_pos c_5]; first | done | rfl) | (unfold f_X4_numberOfBeam; simp only [if_neg c_1, if_neg c_3, if_pos c_5])) rfl hP hD hS) hS.2.2 dX4_numberOfBeam_55
  rcases Classical.em (what = 3) with c_7 | c_7
  · refine lv_tableIn (off := 55) (tgt := 56) hx hb dX4_numberOfBeam_1 (by rw [c_7]; decide) (by rw [c_7]; decide) (by rw [c_7]; rfl) (by decide) ?_
    refine lv_aload_n hx hb dX4_numberOfBeam_56 rfl (lv_at hl 0 rfl) ?_
    refine lv_iload_n hx hb dX4_numberOfBeam_57 rfl (lv_at hl 1 rfl) ?_
    refine ct_callV (As := [.int b]) (rest := []) X hP hD hS hA (k_X4_pullsOfBeam l G cI cS cL q beams speeds phases springs strikes ways kickSums nearTicks gives settings ticks kicks strikeTicks pulls leaders b) cp_X4_pullsOfBeam aw_446 ⟨Nat.le_of_ble_eq_true rfl, Nat.le_of_ble_eq_true rfl⟩ [0] (cs := [stC q cI beams speeds phases springs strikes ways kickSums nearTicks gives settings ticks kicks strikeTicks pulls leaders]) rfl (by decide) (cs' := [stC q cI beams speeds phases springs strikes ways kickSums nearTicks gives settings ticks kicks strikeTicks pulls leaders]) rfl rfl 2 rfl rfl (q0 := 0) rfl rfl hl.1 rfl (Nat.le_of_ble_eq_true rfl) dX4_numberOfBeam_58 ⟨Nat.zero_le _, Nat.zero_le _⟩ rfl (bs' := [stC q cI beams speeds phases springs strikes ways kickSums nearTicks gives settings ticks kicks strikeTicks pulls leaders]) rfl (fun H locs hP hD hS => ?_)
    rw [← hQQ]; exact W.iret hx hb hr (ct_end (F := (f_X4_numberOfBeam beams phases springs gives settings b what)) (u := (f_X4_pullsOfBeam beams phases springs gives settings b)) (rf := (fun u => some (.int u))) (wf := (fun _ => [stC q cI beams speeds phases springs strikes ways kickSums nearTicks gives settings ticks kicks strikeTicks pulls leaders].flatten)) (by first | (unfold f_X4_numberOfBeam; rw [if_neg c_1, if_neg c_3, if_neg c_5, if_pos c_7]; first | done | rfl) | (unfold f_X4_numberOfBeam; simp only [if_neg c_1, if_neg c_3, if_neg c_5, if_pos c_7])) rfl hP hD hS) hS.2.2 dX4_numberOfBeam_61
  refine lv_tableOut (tgt := 62) hx hb dX4_numberOfBeam_1 (sw_out (lo := 0) (hi := 3) (fun j h1 h2 => by
      have h3 : j = 0 ∨ j = 1 ∨ j = 2 ∨ j = 3 := by omega
      rcases h3 with rfl | rfl | rfl | rfl
      · exact c_1
      · exact c_3
      · exact c_5
      · exact c_7)) (by decide) ?_
  refine lv_aload_n hx hb dX4_numberOfBeam_62 rfl (lv_at hl 0 rfl) ?_
  refine lv_iload_n hx hb dX4_numberOfBeam_63 rfl (lv_at hl 1 rfl) ?_
  refine ct_callV (As := [.int b]) (rest := []) X hP hD hS hA (k_X4_widestGap l G cI cS cL q beams speeds phases springs strikes ways kickSums nearTicks gives settings ticks kicks strikeTicks pulls leaders b) cp_X4_widestGap aw_450 ⟨Nat.le_of_ble_eq_true rfl, Nat.le_of_ble_eq_true rfl⟩ [0] (cs := [stC q cI beams speeds phases springs strikes ways kickSums nearTicks gives settings ticks kicks strikeTicks pulls leaders]) rfl (by decide) (cs' := [stC q cI beams speeds phases springs strikes ways kickSums nearTicks gives settings ticks kicks strikeTicks pulls leaders]) rfl rfl 2 rfl rfl (q0 := 0) rfl rfl hl.1 rfl (Nat.le_of_ble_eq_true rfl) dX4_numberOfBeam_64 ⟨Nat.zero_le _, Nat.zero_le _⟩ rfl (bs' := [stC q cI beams speeds phases springs strikes ways kickSums nearTicks gives settings ticks kicks strikeTicks pulls leaders]) rfl (fun H locs hP hD hS => ?_)
  rw [← hQQ]; exact W.iret hx hb hr (ct_end (F := (f_X4_numberOfBeam beams phases springs gives settings b what)) (u := (f_X4_widestGap beams phases springs b)) (rf := (fun u => some (.int u))) (wf := (fun _ => [stC q cI beams speeds phases springs strikes ways kickSums nearTicks gives settings ticks kicks strikeTicks pulls leaders].flatten)) (by first | (unfold f_X4_numberOfBeam; rw [if_neg c_1, if_neg c_3, if_neg c_5, if_neg c_7]; first | done | rfl) | (unfold f_X4_numberOfBeam; simp only [if_neg c_1, if_neg c_3, if_neg c_5, if_neg c_7])) rfl hP hD hS) hS.2.2 dX4_numberOfBeam_67
set_option maxRecDepth 100000 in
set_option maxHeartbeats 4000000 in
theorem k_X4_numberOfAll (l : Launch) (G : va_G) (cI cS cL : ClassId) (q : Nat → Nat) (beams : Nat → Int32) (speeds : Nat → Int32) (phases : Nat → Int32) (springs : Nat → Int32) (strikes : Nat → Int32) (ways : Nat → Int32) (kickSums : Nat → Int32) (nearTicks : Nat → Int32) (gives : Nat → Int32) (settings : Nat → Int32) (ticks : Int32) (kicks : Int32) (strikeTicks : Int32) (pulls : Nat → Int32) (leaders : Nat → Int32) (what : Int32) (saved : Int32) : Ct l G (tyl cI cS cL) yX4_numberOfAll cX4_numberOfAll 3 (some (Jvm.ClassFile.FieldType.int)) 4 92 0 0 [.ref (q 0), .int what, .int saved] [stC q cI beams speeds phases springs strikes ways kickSums nearTicks gives settings ticks kicks strikeTicks pulls leaders].flatten (f_X4_numberOfAll springs strikes nearTicks settings ticks kicks strikeTicks leaders what saved) (fun u => some (.int u.1)) (fun u => [stC q cI beams speeds phases springs strikes ways kickSums nearTicks gives settings ticks kicks strikeTicks pulls u.2].flatten) := by
  refine Ct.of (by decide +kernel) (Nat.le_of_ble_eq_true rfl) ?_
  intro p e s m args below meth c A ls hx hb hr hml hw hown hlocks hin hK hN hP hD hS hA hl
  have hown : s.vm.findClass RX4 = some m.cls := hown
  have X : Cx p s m args c cX4_numberOfAll 3 RX4 G (tyl cI cS cL) := ⟨hx, hb, hml, hown, hw, hK, hN⟩
  have hP : va_P G classes [stC q cI beams speeds phases springs strikes ways kickSums nearTicks gives settings ticks kicks strikeTicks pulls leaders].flatten s.heap := hP
  have hl : lv_has ls 3 [(0, .ref (q 0)), (1, .int what), (2, .int saved)] := hl
  generalize hQQ : MQ below _ args s 0 0 A = QQ
  refine lv_iload_n hx hb dX4_numberOfAll_0 rfl (lv_at hl 1 rfl) ?_
  rcases Classical.em (what = 0) with c_1 | c_1
  · refine lv_tableIn (off := 51) (tgt := 52) hx hb dX4_numberOfAll_1 (by rw [c_1]; decide) (by rw [c_1]; decide) (by rw [c_1]; rfl) (by decide) ?_
    refine lv_aload_n hx hb dX4_numberOfAll_52 rfl (lv_at hl 0 rfl) ?_
    refine va_get (D := G) (ci := 2) (C := RX4) (T := TX4) (N := 15) hx hb hw in_X4 hown hK hP 0 rfl rfl 10 (by decide) (hw _ aw_82) (fun _ h9 => h9) rfl dX4_numberOfAll_53 ?_
    rw [← hQQ]; exact W.iret hx hb hr (ct_end (F := (f_X4_numberOfAll springs strikes nearTicks settings ticks kicks strikeTicks leaders what saved)) (u := (ticks, leaders)) (rf := (fun u => some (.int u.1))) (wf := (fun u => [stC q cI beams speeds phases springs strikes ways kickSums nearTicks gives settings ticks kicks strikeTicks pulls u.2].flatten)) (by first | (unfold f_X4_numberOfAll; rw [if_pos c_1]; first | done | rfl) | (unfold f_X4_numberOfAll; simp only [if_pos c_1])) rfl hP hD hS) hS.2.2 dX4_numberOfAll_56
  rcases Classical.em (what = 1) with c_3 | c_3
  · refine lv_tableIn (off := 56) (tgt := 57) hx hb dX4_numberOfAll_1 (by rw [c_3]; decide) (by rw [c_3]; decide) (by rw [c_3]; rfl) (by decide) ?_
    refine lv_aload_n hx hb dX4_numberOfAll_57 rfl (lv_at hl 0 rfl) ?_
    refine ct_callV (As := []) (rest := []) X hP hD hS hA (k_X4_strikesOfAll l G cI cS cL q beams speeds phases springs strikes ways kickSums nearTicks gives settings ticks kicks strikeTicks pulls leaders) cp_X4_strikesOfAll aw_284 ⟨Nat.le_of_ble_eq_true rfl, Nat.le_of_ble_eq_true rfl⟩ [0] (cs := [stC q cI beams speeds phases springs strikes ways kickSums nearTicks gives settings ticks kicks strikeTicks pulls leaders]) rfl (by decide) (cs' := [stC q cI beams speeds phases springs strikes ways kickSums nearTicks gives settings ticks kicks strikeTicks pulls leaders]) rfl rfl 2 rfl rfl (q0 := 0) rfl rfl hl.1 rfl (Nat.le_of_ble_eq_true rfl) dX4_numberOfAll_58 ⟨Nat.zero_le _, Nat.zero_le _⟩ rfl (bs' := [stC q cI beams speeds phases springs strikes ways kickSums nearTicks gives settings ticks kicks strikeTicks pulls leaders]) rfl (fun H locs hP hD hS => ?_)
    rw [← hQQ]; exact W.iret hx hb hr (ct_end (F := (f_X4_numberOfAll springs strikes nearTicks settings ticks kicks strikeTicks leaders what saved)) (u := ((f_X4_strikesOfAll strikes), leaders)) (rf := (fun u => some (.int u.1))) (wf := (fun u => [stC q cI beams speeds phases springs strikes ways kickSums nearTicks gives settings ticks kicks strikeTicks pulls u.2].flatten)) (by first | (unfold f_X4_numberOfAll; rw [if_neg c_1, if_pos c_3]; first | done | rfl) | (unfold f_X4_numberOfAll; simp only [if_neg c_1, if_pos c_3])) rfl hP hD hS) hS.2.2 dX4_numberOfAll_61
  rcases Classical.em (what = 2) with c_5 | c_5
  · refine lv_tableIn (off := 61) (tgt := 62) hx hb dX4_numberOfAll_1 (by rw [c_5]; decide) (by rw [c_5]; decide) (by rw [c_5]; rfl) (by decide) ?_
    refine lv_aload_n hx hb dX4_numberOfAll_62 rfl (lv_at hl 0 rfl) ?_
    refine ct_callV (As := []) (rest := []) X hP hD hS hA (k_X4_goingMask l G cI cS cL q beams speeds phases springs strikes ways kickSums nearTicks gives settings ticks kicks strikeTicks pulls leaders) cp_X4_goingMask aw_288 ⟨Nat.le_of_ble_eq_true rfl, Nat.le_of_ble_eq_true rfl⟩ [0] (cs := [stC q cI beams speeds phases springs strikes ways kickSums nearTicks gives settings ticks kicks strikeTicks pulls leaders]) rfl (by decide) (cs' := [stC q cI beams speeds phases springs strikes ways kickSums nearTicks gives settings ticks kicks strikeTicks pulls leaders]) rfl rfl 2 rfl rfl (q0 := 0) rfl rfl hl.1 rfl (Nat.le_of_ble_eq_true rfl) dX4_numberOfAll_63 ⟨Nat.zero_le _, Nat.zero_le _⟩ rfl (bs' := [stC q cI beams speeds phases springs strikes ways kickSums nearTicks gives settings ticks kicks strikeTicks pulls leaders]) rfl (fun H locs hP hD hS => ?_)
    refine ct_callS (As := [.int (f_X4_goingMask springs)]) (rest := []) X hP hD hS hA (k_J6_bitCount_0f7a4 l G cI cS cL  (f_X4_goingMask springs)) cq_J6_bitCount_0f7a4 aw_296 ⟨Nat.le_of_ble_eq_true rfl, Nat.le_of_ble_eq_true rfl⟩ ([] : List Nat) (cs := []) rfl (by decide) (cs' := []) rfl rfl rfl hl.1 rfl (Nat.le_of_ble_eq_true rfl) dX4_numberOfAll_66 ⟨Nat.zero_le _, Nat.zero_le _⟩ rfl (bs' := [stC q cI beams speeds phases springs strikes ways kickSums nearTicks gives settings ticks kicks strikeTicks pulls leaders]) rfl (fun H locs hP hD hS => ?_)
    rw [← hQQ]; exact W.iret hx hb hr (ct_end (F := (f_X4_numberOfAll springs strikes nearTicks settings ticks kicks strikeTicks leaders what saved)) (u := ((f_J6_bitCount_0f7a4 (f_X4_goingMask springs)), leaders)) (rf := (fun u => some (.int u.1))) (wf := (fun u => [stC q cI beams speeds phases springs strikes ways kickSums nearTicks gives settings ticks kicks strikeTicks pulls u.2].flatten)) (by first | (unfold f_X4_numberOfAll; rw [if_neg c_1, if_neg c_3, if_pos c_5]; first | done | rfl) | (unfold f_X4_numberOfAll; simp only [if_neg c_1, if_neg c_3, if_pos c_5])) rfl hP hD hS) hS.2.2 dX4_numberOfAll_69
  rcases Classical.em (what = 3) with c_7 | c_7
  · refine lv_tableIn (off := 69) (tgt := 70) hx hb dX4_numberOfAll_1 (by rw [c_7]; decide) (by rw [c_7]; decide) (by rw [c_7]; rfl) (by decide) ?_
    refine lv_aload_n hx hb dX4_numberOfAll_70 rfl (lv_at hl 0 rfl) ?_
    refine ct_callV (As := []) (rest := []) X hP hD hS hA (k_X4_lockedPairs l G cI cS cL q beams speeds phases springs strikes ways kickSums nearTicks gives settings ticks kicks strikeTicks pulls leaders) cp_X4_lockedPairs aw_302 ⟨Nat.le_of_ble_eq_true rfl, Nat.le_of_ble_eq_true rfl⟩ [0] (cs := [stC q cI beams speeds phases springs strikes ways kickSums nearTicks gives settings ticks kicks strikeTicks pulls leaders]) rfl (by decide) (cs' := [stC q cI beams speeds phases springs strikes ways kickSums nearTicks gives settings ticks kicks strikeTicks pulls leaders]) rfl rfl 2 rfl rfl (q0 := 0) rfl rfl hl.1 rfl (Nat.le_of_ble_eq_true rfl) dX4_numberOfAll_71 ⟨Nat.zero_le _, Nat.zero_le _⟩ rfl (bs' := [stC q cI beams speeds phases springs strikes ways kickSums nearTicks gives settings ticks kicks strikeTicks pulls leaders]) rfl (fun H locs hP hD hS => ?_)
    rw [← hQQ]; exact W.iret hx hb hr (ct_end (F := (f_X4_numberOfAll springs strikes nearTicks settings ticks kicks strikeTicks leaders what saved)) (u := ((f_X4_lockedPairs nearTicks settings), leaders)) (rf := (fun u => some (.int u.1))) (wf := (fun u => [stC q cI beams speeds phases springs strikes ways kickSums nearTicks gives settings ticks kicks strikeTicks pulls u.2].flatten)) (by first | (unfold f_X4_numberOfAll; rw [if_neg c_1, if_neg c_3, if_neg c_5, if_pos c_7]; first | done | rfl) | (unfold f_X4_numberOfAll; simp only [if_neg c_1, if_neg c_3, if_neg c_5, if_pos c_7])) rfl hP hD hS) hS.2.2 dX4_numberOfAll_74
  rcases Classical.em (what = 4) with c_9 | c_9
  · refine lv_tableIn (off := 74) (tgt := 75) hx hb dX4_numberOfAll_1 (by rw [c_9]; decide) (by rw [c_9]; decide) (by rw [c_9]; rfl) (by decide) ?_
    refine lv_aload_n hx hb dX4_numberOfAll_75 rfl (lv_at hl 0 rfl) ?_
    refine ct_callV (As := []) (rest := []) X hP hD hS hA (k_X4_groupsByJoining l G cI cS cL q beams speeds phases springs strikes ways kickSums nearTicks gives settings ticks kicks strikeTicks pulls leaders) cp_X4_groupsByJoining aw_310 ⟨Nat.le_of_ble_eq_true rfl, Nat.le_of_ble_eq_true rfl⟩ [0] (cs := [stC q cI beams speeds phases springs strikes ways kickSums nearTicks gives settings ticks kicks strikeTicks pulls leaders]) rfl (by decide) (cs' := [stC q cI beams speeds phases springs strikes ways kickSums nearTicks gives settings ticks kicks strikeTicks pulls ((f_X4_groupsByJoining nearTicks settings leaders).2)]) rfl rfl 2 rfl rfl (q0 := 0) rfl rfl hl.1 rfl (Nat.le_of_ble_eq_true rfl) dX4_numberOfAll_76 ⟨Nat.zero_le _, Nat.zero_le _⟩ rfl (bs' := [stC q cI beams speeds phases springs strikes ways kickSums nearTicks gives settings ticks kicks strikeTicks pulls ((f_X4_groupsByJoining nearTicks settings leaders).2)]) rfl (fun H locs hP hD hS => ?_)
    rw [← hQQ]; exact W.iret hx hb hr (ct_end (F := (f_X4_numberOfAll springs strikes nearTicks settings ticks kicks strikeTicks leaders what saved)) (u := (f_X4_groupsByJoining nearTicks settings leaders)) (rf := (fun u => some (.int u.1))) (wf := (fun u => [stC q cI beams speeds phases springs strikes ways kickSums nearTicks gives settings ticks kicks strikeTicks pulls u.2].flatten)) (by first | (unfold f_X4_numberOfAll; rw [if_neg c_1, if_neg c_3, if_neg c_5, if_neg c_7, if_pos c_9]; first | done | rfl) | (unfold f_X4_numberOfAll; simp only [if_neg c_1, if_neg c_3, if_neg c_5, if_neg c_7, if_pos c_9])) rfl hP hD hS) hS.2.2 dX4_numberOfAll_79
  rcases Classical.em (what = 5) with c_11 | c_11
  · refine lv_tableIn (off := 79) (tgt := 80) hx hb dX4_numberOfAll_1 (by rw [c_11]; decide) (by rw [c_11]; decide) (by rw [c_11]; rfl) (by decide) ?_
    refine lv_aload_n hx hb dX4_numberOfAll_80 rfl (lv_at hl 0 rfl) ?_
    refine ct_callV (As := []) (rest := []) X hP hD hS hA (k_X4_groupsByWalking l G cI cS cL q beams speeds phases springs strikes ways kickSums nearTicks gives settings ticks kicks strikeTicks pulls leaders) cp_X4_groupsByWalking aw_318 ⟨Nat.le_of_ble_eq_true rfl, Nat.le_of_ble_eq_true rfl⟩ [0] (cs := [stC q cI beams speeds phases springs strikes ways kickSums nearTicks gives settings ticks kicks strikeTicks pulls leaders]) rfl (by decide) (cs' := [stC q cI beams speeds phases springs strikes ways kickSums nearTicks gives settings ticks kicks strikeTicks pulls leaders]) rfl rfl 2 rfl rfl (q0 := 0) rfl rfl hl.1 rfl (Nat.le_of_ble_eq_true rfl) dX4_numberOfAll_81 ⟨Nat.zero_le _, Nat.zero_le _⟩ rfl (bs' := [stC q cI beams speeds phases springs strikes ways kickSums nearTicks gives settings ticks kicks strikeTicks pulls leaders]) rfl (fun H locs hP hD hS => ?_)
    rw [← hQQ]; exact W.iret hx hb hr (ct_end (F := (f_X4_numberOfAll springs strikes nearTicks settings ticks kicks strikeTicks leaders what saved)) (u := ((f_X4_groupsByWalking nearTicks settings), leaders)) (rf := (fun u => some (.int u.1))) (wf := (fun u => [stC q cI beams speeds phases springs strikes ways kickSums nearTicks gives settings ticks kicks strikeTicks pulls u.2].flatten)) (by first | (unfold f_X4_numberOfAll; rw [if_neg c_1, if_neg c_3, if_neg c_5, if_neg c_7, if_neg c_9, if_pos c_11]; first | done | rfl) | (unfold f_X4_numberOfAll; simp only [if_neg c_1, if_neg c_3, if_neg c_5, if_neg c_7, if_neg c_9, if_pos c_11])) rfl hP hD hS) hS.2.2 dX4_numberOfAll_84
  rcases Classical.em (what = 6) with c_13 | c_13
  · refine lv_tableIn (off := 84) (tgt := 85) hx hb dX4_numberOfAll_1 (by rw [c_13]; decide) (by rw [c_13]; decide) (by rw [c_13]; rfl) (by decide) ?_
    refine lv_aload_n hx hb dX4_numberOfAll_85 rfl (lv_at hl 0 rfl) ?_
    refine ct_callV (As := []) (rest := []) X hP hD hS hA (k_X4_greatestGroup l G cI cS cL q beams speeds phases springs strikes ways kickSums nearTicks gives settings ticks kicks strikeTicks pulls leaders) cp_X4_greatestGroup aw_333 ⟨Nat.le_of_ble_eq_true rfl, Nat.le_of_ble_eq_true rfl⟩ [0] (cs := [stC q cI beams speeds phases springs strikes ways kickSums nearTicks gives settings ticks kicks strikeTicks pulls leaders]) rfl (by decide) (cs' := [stC q cI beams speeds phases springs strikes ways kickSums nearTicks gives settings ticks kicks strikeTicks pulls leaders]) rfl rfl 2 rfl rfl (q0 := 0) rfl rfl hl.1 rfl (Nat.le_of_ble_eq_true rfl) dX4_numberOfAll_86 ⟨Nat.zero_le _, Nat.zero_le _⟩ rfl (bs' := [stC q cI beams speeds phases springs strikes ways kickSums nearTicks gives settings ticks kicks strikeTicks pulls leaders]) rfl (fun H locs hP hD hS => ?_)
    rw [← hQQ]; exact W.iret hx hb hr (ct_end (F := (f_X4_numberOfAll springs strikes nearTicks settings ticks kicks strikeTicks leaders what saved)) (u := ((f_X4_greatestGroup nearTicks settings), leaders)) (rf := (fun u => some (.int u.1))) (wf := (fun u => [stC q cI beams speeds phases springs strikes ways kickSums nearTicks gives settings ticks kicks strikeTicks pulls u.2].flatten)) (by first | (unfold f_X4_numberOfAll; rw [if_neg c_1, if_neg c_3, if_neg c_5, if_neg c_7, if_neg c_9, if_neg c_11, if_pos c_13]; first | done | rfl) | (unfold f_X4_numberOfAll; simp only [if_neg c_1, if_neg c_3, if_neg c_5, if_neg c_7, if_neg c_9, if_neg c_11, if_pos c_13])) rfl hP hD hS) hS.2.2 dX4_numberOfAll_89
  rcases Classical.em (what = 7) with c_15 | c_15
  · refine lv_tableIn (off := 89) (tgt := 90) hx hb dX4_numberOfAll_1 (by rw [c_15]; decide) (by rw [c_15]; decide) (by rw [c_15]; rfl) (by decide) ?_
    refine lv_aload_n hx hb dX4_numberOfAll_90 rfl (lv_at hl 0 rfl) ?_
    refine va_get (D := G) (ci := 2) (C := RX4) (T := TX4) (N := 15) hx hb hw in_X4 hown hK hP 0 rfl rfl 11 (by decide) (hw _ aw_84) (fun _ h9 => h9) rfl dX4_numberOfAll_91 ?_
    rw [← hQQ]; exact W.iret hx hb hr (ct_end (F := (f_X4_numberOfAll springs strikes nearTicks settings ticks kicks strikeTicks leaders what saved)) (u := (kicks, leaders)) (rf := (fun u => some (.int u.1))) (wf := (fun u => [stC q cI beams speeds phases springs strikes ways kickSums nearTicks gives settings ticks kicks strikeTicks pulls u.2].flatten)) (by first | (unfold f_X4_numberOfAll; rw [if_neg c_1, if_neg c_3, if_neg c_5, if_neg c_7, if_neg c_9, if_neg c_11, if_neg c_13, if_pos c_15]; first | done | rfl) | (unfold f_X4_numberOfAll; simp only [if_neg c_1, if_neg c_3, if_neg c_5, if_neg c_7, if_neg c_9, if_neg c_11, if_neg c_13, if_pos c_15])) rfl hP hD hS) hS.2.2 dX4_numberOfAll_94
  rcases Classical.em (what = 8) with c_17 | c_17
  · refine lv_tableIn (off := 94) (tgt := 95) hx hb dX4_numberOfAll_1 (by rw [c_17]; decide) (by rw [c_17]; decide) (by rw [c_17]; rfl) (by decide) ?_
    refine lv_aload_n hx hb dX4_numberOfAll_95 rfl (lv_at hl 0 rfl) ?_
    refine va_get (D := G) (ci := 2) (C := RX4) (T := TX4) (N := 15) hx hb hw in_X4 hown hK hP 0 rfl rfl 12 (by decide) (hw _ aw_85) (fun _ h9 => h9) rfl dX4_numberOfAll_96 ?_
    rw [← hQQ]; exact W.iret hx hb hr (ct_end (F := (f_X4_numberOfAll springs strikes nearTicks settings ticks kicks strikeTicks leaders what saved)) (u := (strikeTicks, leaders)) (rf := (fun u => some (.int u.1))) (wf := (fun u => [stC q cI beams speeds phases springs strikes ways kickSums nearTicks gives settings ticks kicks strikeTicks pulls u.2].flatten)) (by first | (unfold f_X4_numberOfAll; rw [if_neg c_1, if_neg c_3, if_neg c_5, if_neg c_7, if_neg c_9, if_neg c_11, if_neg c_13, if_neg c_15, if_pos c_17]; first | done | rfl) | (unfold f_X4_numberOfAll; simp only [if_neg c_1, if_neg c_3, if_neg c_5, if_neg c_7, if_neg c_9, if_neg c_11, if_neg c_13, if_neg c_15, if_pos c_17])) rfl hP hD hS) hS.2.2 dX4_numberOfAll_99
  refine lv_tableOut (tgt := 100) hx hb dX4_numberOfAll_1 (sw_out (lo := 0) (hi := 8) (fun j h1 h2 => by
      have h3 : j = 0 ∨ j = 1 ∨ j = 2 ∨ j = 3 ∨ j = 4 ∨ j = 5 ∨ j = 6 ∨ j = 7 ∨ j = 8 := by omega
      rcases h3 with rfl | rfl | rfl | rfl | rfl | rfl | rfl | rfl | rfl
      · exact c_1
      · exact c_3
      · exact c_5
      · exact c_7
      · exact c_9
      · exact c_11
      · exact c_13
      · exact c_15
      · exact c_17)) (by decide) ?_
  refine lv_iload_n hx hb dX4_numberOfAll_100 rfl (lv_at hl 2 rfl) ?_
  rw [← hQQ]; exact W.iret hx hb hr (ct_end (F := (f_X4_numberOfAll springs strikes nearTicks settings ticks kicks strikeTicks leaders what saved)) (u := (saved, leaders)) (rf := (fun u => some (.int u.1))) (wf := (fun u => [stC q cI beams speeds phases springs strikes ways kickSums nearTicks gives settings ticks kicks strikeTicks pulls u.2].flatten)) (by first | (unfold f_X4_numberOfAll; rw [if_neg c_1, if_neg c_3, if_neg c_5, if_neg c_7, if_neg c_9, if_neg c_11, if_neg c_13, if_neg c_15, if_neg c_17]; first | done | rfl) | (unfold f_X4_numberOfAll; simp only [if_neg c_1, if_neg c_3, if_neg c_5, if_neg c_7, if_neg c_9, if_neg c_11, if_neg c_13, if_neg c_15, if_neg c_17])) rfl hP hD hS) hS.2.2 dX4_numberOfAll_101
