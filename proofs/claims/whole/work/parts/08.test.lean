def f_X5_isBeam (a : Int32) : Bool := (if a < 0 then false else (if (3 : Int32) ≤ a then false else true))
def f_X4_goes (springs : Nat → Int32) (k : Nat) : Bool := (if (springs k) ≤ 0 then false else true)
def f_X4_hangsOn (beams : Nat → Int32) (k : Nat) (b : Int32) : Bool := (if (beams k) = b then true else false)
def f_X4_hangTogether (beams : Nat → Int32) (k : Nat) (o : Nat) : Bool := (if (beams k) = (beams o) then true else false)
def f_X4_gapFrom (phases : Nat → Int32) (k : Nat) (o : Nat) : Int32 := (if ((phases o) - (phases k)) < (500 : Int32) then (if (-500 : Int32) ≤ ((phases o) - (phases k)) then ((phases o) - (phases k)) else (((phases o) - (phases k)) + (1000 : Int32))) else (((phases o) - (phases k)) - (1000 : Int32)))
def f_X4_areNear (phases : Nat → Int32) (settings : Nat → Int32) (k : Nat) (o : Nat) : Bool := (if (settings 1) < (if 0 ≤ (f_X4_gapFrom phases k o) then (f_X4_gapFrom phases k o) else 0 - (f_X4_gapFrom phases k o)) then false else true)
def f_X4_areLocked (nearTicks : Nat → Int32) (settings : Nat → Int32) (k : Nat) (o : Nat) : Bool := (if (nearTicks ((k * 8) + o)) < (settings 2) then false else true)
def f_X4_setTicksNear (nearTicks : Nat → Int32) (k : Nat) (o : Nat) (cnt : Int32) : (Nat → Int32) := (upd (upd nearTicks ((k * 8) + o) cnt) ((o * 8) + k) cnt)
def L_X4_lookAtPairs_12 (beams : Nat → Int32) (phases : Nat → Int32) (springs : Nat → Int32) (settings : Nat → Int32) (i2 : Nat) : Nat → ((Nat → Int32)) → ((Nat → Int32)) := fun i12 s12 => (f_X4_setTicksNear s12 i2 i12 (if (if (f_X4_goes springs i2) = true then (if (f_X4_goes springs i12) = true then (if (f_X4_hangTogether beams i2 i12) = true then (if (f_X4_areNear phases settings i2 i12) = true then true else false) else false) else false) else false) = true then ((s12 ((i2 * 8) + i12)) + (1 : Int32)) else (0 : Int32)))
def L_X4_lookAtPairs_2 (beams : Nat → Int32) (phases : Nat → Int32) (springs : Nat → Int32) (settings : Nat → Int32) : Nat → ((Nat → Int32)) → ((Nat → Int32)) := fun i2 s2 => (it (L_X4_lookAtPairs_12 beams phases springs settings i2) (i2 + 1) (8 - (i2 + 1)) s2)
def f_X4_lookAtPairs (beams : Nat → Int32) (phases : Nat → Int32) (springs : Nat → Int32) (nearTicks : Nat → Int32) (settings : Nat → Int32) : (Nat → Int32) := (it (L_X4_lookAtPairs_2 beams phases springs settings) 0 8 nearTicks)
def L_X4_lockedMask_4 (nearTicks : Nat → Int32) (settings : Nat → Int32) (k : Nat) : Nat → (Int32) → (Int32) := fun i4 s4 => (if i4 = k then s4 else (if (f_X4_areLocked nearTicks settings k i4) = true then (s4 ||| ((1 : Int32) <<< ((nI i4) &&& 31))) else s4))
def f_X4_lockedMask (nearTicks : Nat → Int32) (settings : Nat → Int32) (k : Nat) : Int32 := (it (L_X4_lockedMask_4 nearTicks settings k) 0 8 (0 : Int32))
theorem cp_X4_areLocked : CpV yX4_areLocked cX4_areLocked 3 (some (Jvm.ClassFile.FieldType.boolean)) 2 := ⟨aw_398, aw_396, aw_397, aw_68, by decide +kernel⟩
theorem cp_X4_areNear : CpV yX4_areNear cX4_areNear 3 (some (Jvm.ClassFile.FieldType.boolean)) 2 := ⟨aw_368, aw_367, aw_13, aw_68, by decide +kernel⟩
theorem cp_X4_gapFrom : CpV yX4_gapFrom cX4_gapFrom 4 (some (Jvm.ClassFile.FieldType.int)) 2 := ⟨aw_342, aw_341, aw_8, aw_68, by decide +kernel⟩
theorem cp_X4_goes : CpV yX4_goes cX4_goes 2 (some (Jvm.ClassFile.FieldType.boolean)) 1 := ⟨aw_333, aw_331, aw_332, aw_68, by decide +kernel⟩
theorem cp_X4_hangTogether : CpV yX4_hangTogether cX4_hangTogether 3 (some (Jvm.ClassFile.FieldType.boolean)) 2 := ⟨aw_364, aw_363, aw_12, aw_68, by decide +kernel⟩
theorem cp_X4_setTicksNear : CpV yX4_setTicksNear cX4_setTicksNear 4 none 3 := ⟨aw_375, aw_374, aw_14, aw_68, by decide +kernel⟩
set_option maxRecDepth 100000 in
set_option maxHeartbeats 4000000 in
theorem k_X5_isBeam (l : Launch) (G : va_G) (cI cS cL : ClassId) (a : Int32) : Ct l G (tyl cI cS cL) yX5_isBeam cX5_isBeam 1 (some (Jvm.ClassFile.FieldType.boolean)) 0 0 0 0 [.int a] [].flatten (f_X5_isBeam a) (fun u => some (.int (bI u))) (fun _ => [].flatten) := by
  refine Ct.of (by decide) (Nat.le_of_ble_eq_true rfl) ?_
  intro p e s m args below meth c A ls hx hb hr hml hw hown hlocks hin hK hN hP hD hS hA hl
  have hown : s.vm.findClass RX5 = some m.cls := hown
  have X : Cx p s m args c cX5_isBeam 1 RX5 G (tyl cI cS cL) := ⟨hx, hb, hml, hown, hw, hK, hN⟩
  have hP : va_P G classes [].flatten s.heap := hP
  have hl : lv_has ls 1 [(0, .int a)] := hl
  generalize hQQ : MQ below _ args s 0 0 A = QQ
  refine lv_iload_n hx hb dX5_isBeam_0 rfl (lv_at hl 0 rfl) ?_
  have hM_10 : ∀ (v_9 : Bool) (ls : Array Slot) (H : Heap) (locs : List Loc), v_9 = (if a < 0 then false else (if (3 : Int32) ≤ a then false else true)) → lv_has ls 1 [] → va_P G classes [].flatten H → va_D A [].flatten → va_S A s.heap H locs → W p l e ({ frames := 0, cells := 0, slots := 0, locals := 0 } : Room) s m args below meth c H locs 0 0 QQ (F0 m 14 ls [.int (bI v_9)]) := by
    intro v_9 ls H locs e_v_9 hl hP hD hS
    subst e_v_9
    rw [← hQQ]; exact W.zret (v := bI (if a < 0 then false else (if (3 : Int32) ≤ a then false else true))) hx hb hr (nar_b _) (ct_end (F := (f_X5_isBeam a)) (u := (if a < 0 then false else (if (3 : Int32) ≤ a then false else true))) (rf := (fun u => some (.int (bI u)))) (wf := (fun _ => [].flatten)) rfl rfl hP hD hS) hS.2.2 dX5_isBeam_14
  refine lv_if_lt (tgt := 13) hx hb dX5_isBeam_1 (by decide) (fun c_1 => ?_) (fun c_1 => ?_)
  · refine lv_iconst (v := 0) hx hb dX5_isBeam_13 (by decide) ?_
    exact hM_10 false _ _ _ (if_pos c_1).symm (lv_sub hl [] rfl) hP hD hS
  · refine lv_iload_n hx hb dX5_isBeam_4 rfl (lv_at hl 0 rfl) ?_
    refine lv_iconst (v := 3) hx hb dX5_isBeam_5 (by decide) ?_
    have hM_7 : ∀ (v_6 : Bool) (ls : Array Slot) (H : Heap) (locs : List Loc), v_6 = (if (3 : Int32) ≤ a then false else true) → lv_has ls 1 [] → va_P G classes [].flatten H → va_D A [].flatten → va_S A s.heap H locs → W p l e ({ frames := 0, cells := 0, slots := 0, locals := 0 } : Room) s m args below meth c H locs 0 0 QQ (F0 m 14 ls [.int (bI v_6)]) := by
      intro v_6 ls H locs e_v_6 hl hP hD hS
      subst e_v_6
      exact hM_10 (if (3 : Int32) ≤ a then false else true) _ _ _ (if_neg c_1).symm (lv_sub hl [] rfl) hP hD hS
    refine lv_icmp_ge (tgt := 13) hx hb dX5_isBeam_6 (by decide) (fun c_3 => ?_) (fun c_3 => ?_)
    · refine lv_iconst (v := 0) hx hb dX5_isBeam_13 (by decide) ?_
      exact hM_7 false _ _ _ (if_pos c_3).symm (lv_sub hl [] rfl) hP hD hS
    · refine lv_iconst (v := 1) hx hb dX5_isBeam_9 (by decide) ?_
      refine lv_goto (tgt := 14) hx hb dX5_isBeam_10 (by decide) ?_
      exact hM_7 true _ _ _ (if_neg c_3).symm (lv_sub hl [] rfl) hP hD hS
set_option maxRecDepth 100000 in
set_option maxHeartbeats 4000000 in
theorem k_X4_goes (l : Launch) (G : va_G) (cI cS cL : ClassId) (q : Nat → Nat) (beams : Nat → Int32) (speeds : Nat → Int32) (phases : Nat → Int32) (springs : Nat → Int32) (strikes : Nat → Int32) (ways : Nat → Int32) (kickSums : Nat → Int32) (nearTicks : Nat → Int32) (gives : Nat → Int32) (settings : Nat → Int32) (ticks : Int32) (kicks : Int32) (strikeTicks : Int32) (pulls : Nat → Int32) (leaders : Nat → Int32) (k : Nat) (hk : k < 8) : Ct l G (tyl cI cS cL) yX4_goes cX4_goes 2 (some (Jvm.ClassFile.FieldType.boolean)) 0 0 0 0 [.ref (q 0), .int (nI k)] [stC q cI beams speeds phases springs strikes ways kickSums nearTicks gives settings ticks kicks strikeTicks pulls leaders].flatten (f_X4_goes springs k) (fun u => some (.int (bI u))) (fun _ => [stC q cI beams speeds phases springs strikes ways kickSums nearTicks gives settings ticks kicks strikeTicks pulls leaders].flatten) := by
  refine Ct.of (by decide) (Nat.le_of_ble_eq_true rfl) ?_
  intro p e s m args below meth c A ls hx hb hr hml hw hown hlocks hin hK hN hP hD hS hA hl
  have hown : s.vm.findClass RX4 = some m.cls := hown
  have X : Cx p s m args c cX4_goes 2 RX4 G (tyl cI cS cL) := ⟨hx, hb, hml, hown, hw, hK, hN⟩
  have hP : va_P G classes [stC q cI beams speeds phases springs strikes ways kickSums nearTicks gives settings ticks kicks strikeTicks pulls leaders].flatten s.heap := hP
  have hl : lv_has ls 2 [(0, .ref (q 0)), (1, .int (nI k))] := hl
  generalize hQQ : MQ below _ args s 0 0 A = QQ
  refine lv_aload_n hx hb dX4_goes_0 rfl (lv_at hl 0 rfl) ?_
  refine va_get (D := G) (ci := 2) (C := RX4) (T := TX4) (N := 15) hx hb hw in_X4 hown hK hP 0 rfl rfl 3 (by decide) (hw _ aw_105) (fun _ h9 => h9) rfl dX4_goes_1 ?_
  refine lv_iload_n hx hb dX4_goes_4 rfl (lv_at hl 1 rfl) ?_
  refine nv_iald hx hb hK hP 4 0 rfl rfl k (by omega) (by decide) dX4_goes_5 ?_
  have hM_5 : ∀ (v_4 : Bool) (ls : Array Slot) (H : Heap) (locs : List Loc), v_4 = (if (springs k) ≤ 0 then false else true) → lv_has ls 2 [] → va_P G classes [stC q cI beams speeds phases springs strikes ways kickSums nearTicks gives settings ticks kicks strikeTicks pulls leaders].flatten H → va_D A [stC q cI beams speeds phases springs strikes ways kickSums nearTicks gives settings ticks kicks strikeTicks pulls leaders].flatten → va_S A s.heap H locs → W p l e ({ frames := 0, cells := 0, slots := 0, locals := 0 } : Room) s m args below meth c H locs 0 0 QQ (F0 m 14 ls [.int (bI v_4)]) := by
    intro v_4 ls H locs e_v_4 hl hP hD hS
    subst e_v_4
    rw [← hQQ]; exact W.zret (v := bI (if (springs k) ≤ 0 then false else true)) hx hb hr (nar_b _) (ct_end (F := (f_X4_goes springs k)) (u := (if (springs k) ≤ 0 then false else true)) (rf := (fun u => some (.int (bI u)))) (wf := (fun _ => [stC q cI beams speeds phases springs strikes ways kickSums nearTicks gives settings ticks kicks strikeTicks pulls leaders].flatten)) rfl rfl hP hD hS) hS.2.2 dX4_goes_14
  refine lv_if_le (tgt := 13) hx hb dX4_goes_6 (by decide) (fun c_1 => ?_) (fun c_1 => ?_)
  · refine lv_iconst (v := 0) hx hb dX4_goes_13 (by decide) ?_
    exact hM_5 false _ _ _ (if_pos c_1).symm (lv_sub hl [] rfl) hP hD hS
  · refine lv_iconst (v := 1) hx hb dX4_goes_9 (by decide) ?_
    refine lv_goto (tgt := 14) hx hb dX4_goes_10 (by decide) ?_
    exact hM_5 true _ _ _ (if_neg c_1).symm (lv_sub hl [] rfl) hP hD hS
set_option maxRecDepth 100000 in
set_option maxHeartbeats 4000000 in
theorem k_X4_hangsOn (l : Launch) (G : va_G) (cI cS cL : ClassId) (q : Nat → Nat) (beams : Nat → Int32) (speeds : Nat → Int32) (phases : Nat → Int32) (springs : Nat → Int32) (strikes : Nat → Int32) (ways : Nat → Int32) (kickSums : Nat → Int32) (nearTicks : Nat → Int32) (gives : Nat → Int32) (settings : Nat → Int32) (ticks : Int32) (kicks : Int32) (strikeTicks : Int32) (pulls : Nat → Int32) (leaders : Nat → Int32) (k : Nat) (b : Int32) (hk : k < 8) : Ct l G (tyl cI cS cL) yX4_hangsOn cX4_hangsOn 3 (some (Jvm.ClassFile.FieldType.boolean)) 0 0 0 0 [.ref (q 0), .int (nI k), .int b] [stC q cI beams speeds phases springs strikes ways kickSums nearTicks gives settings ticks kicks strikeTicks pulls leaders].flatten (f_X4_hangsOn beams k b) (fun u => some (.int (bI u))) (fun _ => [stC q cI beams speeds phases springs strikes ways kickSums nearTicks gives settings ticks kicks strikeTicks pulls leaders].flatten) := by
  refine Ct.of (by decide) (Nat.le_of_ble_eq_true rfl) ?_
  intro p e s m args below meth c A ls hx hb hr hml hw hown hlocks hin hK hN hP hD hS hA hl
  have hown : s.vm.findClass RX4 = some m.cls := hown
  have X : Cx p s m args c cX4_hangsOn 3 RX4 G (tyl cI cS cL) := ⟨hx, hb, hml, hown, hw, hK, hN⟩
  have hP : va_P G classes [stC q cI beams speeds phases springs strikes ways kickSums nearTicks gives settings ticks kicks strikeTicks pulls leaders].flatten s.heap := hP
  have hl : lv_has ls 3 [(0, .ref (q 0)), (1, .int (nI k)), (2, .int b)] := hl
  generalize hQQ : MQ below _ args s 0 0 A = QQ
  refine lv_aload_n hx hb dX4_hangsOn_0 rfl (lv_at hl 0 rfl) ?_
  refine va_get (D := G) (ci := 2) (C := RX4) (T := TX4) (N := 15) hx hb hw in_X4 hown hK hP 0 rfl rfl 0 (by decide) (hw _ aw_100) (fun _ h9 => h9) rfl dX4_hangsOn_1 ?_
  refine lv_iload_n hx hb dX4_hangsOn_4 rfl (lv_at hl 1 rfl) ?_
  refine nv_iald hx hb hK hP 1 0 rfl rfl k (by omega) (by decide) dX4_hangsOn_5 ?_
  refine lv_iload_n hx hb dX4_hangsOn_6 rfl (lv_at hl 2 rfl) ?_
  have hM_5 : ∀ (v_4 : Bool) (ls : Array Slot) (H : Heap) (locs : List Loc), v_4 = (if (beams k) = b then true else false) → lv_has ls 3 [] → va_P G classes [stC q cI beams speeds phases springs strikes ways kickSums nearTicks gives settings ticks kicks strikeTicks pulls leaders].flatten H → va_D A [stC q cI beams speeds phases springs strikes ways kickSums nearTicks gives settings ticks kicks strikeTicks pulls leaders].flatten → va_S A s.heap H locs → W p l e ({ frames := 0, cells := 0, slots := 0, locals := 0 } : Room) s m args below meth c H locs 0 0 QQ (F0 m 15 ls [.int (bI v_4)]) := by
    intro v_4 ls H locs e_v_4 hl hP hD hS
    subst e_v_4
    rw [← hQQ]; exact W.zret (v := bI (if (beams k) = b then true else false)) hx hb hr (nar_b _) (ct_end (F := (f_X4_hangsOn beams k b)) (u := (if (beams k) = b then true else false)) (rf := (fun u => some (.int (bI u)))) (wf := (fun _ => [stC q cI beams speeds phases springs strikes ways kickSums nearTicks gives settings ticks kicks strikeTicks pulls leaders].flatten)) rfl rfl hP hD hS) hS.2.2 dX4_hangsOn_15
  refine iv_ne hx hb 14 dX4_hangsOn_7 (by decide) (fun c_1 => ?_) (fun c_1 => ?_)
  · refine lv_iconst (v := 0) hx hb dX4_hangsOn_14 (by decide) ?_
    exact hM_5 false _ _ _ (if_neg c_1).symm (lv_sub hl [] rfl) hP hD hS
  · refine lv_iconst (v := 1) hx hb dX4_hangsOn_10 (by decide) ?_
    refine lv_goto (tgt := 15) hx hb dX4_hangsOn_11 (by decide) ?_
    exact hM_5 true _ _ _ (if_pos c_1).symm (lv_sub hl [] rfl) hP hD hS
set_option maxRecDepth 100000 in
set_option maxHeartbeats 4000000 in
theorem k_X4_hangTogether (l : Launch) (G : va_G) (cI cS cL : ClassId) (q : Nat → Nat) (beams : Nat → Int32) (speeds : Nat → Int32) (phases : Nat → Int32) (springs : Nat → Int32) (strikes : Nat → Int32) (ways : Nat → Int32) (kickSums : Nat → Int32) (nearTicks : Nat → Int32) (gives : Nat → Int32) (settings : Nat → Int32) (ticks : Int32) (kicks : Int32) (strikeTicks : Int32) (pulls : Nat → Int32) (leaders : Nat → Int32) (k : Nat) (o : Nat) (hk : k < 8) (ho : o < 8) : Ct l G (tyl cI cS cL) yX4_hangTogether cX4_hangTogether 3 (some (Jvm.ClassFile.FieldType.boolean)) 0 0 0 0 [.ref (q 0), .int (nI k), .int (nI o)] [stC q cI beams speeds phases springs strikes ways kickSums nearTicks gives settings ticks kicks strikeTicks pulls leaders].flatten (f_X4_hangTogether beams k o) (fun u => some (.int (bI u))) (fun _ => [stC q cI beams speeds phases springs strikes ways kickSums nearTicks gives settings ticks kicks strikeTicks pulls leaders].flatten) := by
  refine Ct.of (by decide) (Nat.le_of_ble_eq_true rfl) ?_
  intro p e s m args below meth c A ls hx hb hr hml hw hown hlocks hin hK hN hP hD hS hA hl
  have hown : s.vm.findClass RX4 = some m.cls := hown
  have X : Cx p s m args c cX4_hangTogether 3 RX4 G (tyl cI cS cL) := ⟨hx, hb, hml, hown, hw, hK, hN⟩
  have hP : va_P G classes [stC q cI beams speeds phases springs strikes ways kickSums nearTicks gives settings ticks kicks strikeTicks pulls leaders].flatten s.heap := hP
  have hl : lv_has ls 3 [(0, .ref (q 0)), (1, .int (nI k)), (2, .int (nI o))] := hl
  generalize hQQ : MQ below _ args s 0 0 A = QQ
  refine lv_aload_n hx hb dX4_hangTogether_0 rfl (lv_at hl 0 rfl) ?_
  refine va_get (D := G) (ci := 2) (C := RX4) (T := TX4) (N := 15) hx hb hw in_X4 hown hK hP 0 rfl rfl 0 (by decide) (hw _ aw_100) (fun _ h9 => h9) rfl dX4_hangTogether_1 ?_
  refine lv_iload_n hx hb dX4_hangTogether_4 rfl (lv_at hl 1 rfl) ?_
  refine nv_iald hx hb hK hP 1 0 rfl rfl k (by omega) (by decide) dX4_hangTogether_5 ?_
  refine lv_aload_n hx hb dX4_hangTogether_6 rfl (lv_at hl 0 rfl) ?_
  refine va_get (D := G) (ci := 2) (C := RX4) (T := TX4) (N := 15) hx hb hw in_X4 hown hK hP 0 rfl rfl 0 (by decide) (hw _ aw_100) (fun _ h9 => h9) rfl dX4_hangTogether_7 ?_
  refine lv_iload_n hx hb dX4_hangTogether_10 rfl (lv_at hl 2 rfl) ?_
  refine nv_iald hx hb hK hP 1 0 rfl rfl o (by omega) (by decide) dX4_hangTogether_11 ?_
  have hM_5 : ∀ (v_4 : Bool) (ls : Array Slot) (H : Heap) (locs : List Loc), v_4 = (if (beams k) = (beams o) then true else false) → lv_has ls 3 [] → va_P G classes [stC q cI beams speeds phases springs strikes ways kickSums nearTicks gives settings ticks kicks strikeTicks pulls leaders].flatten H → va_D A [stC q cI beams speeds phases springs strikes ways kickSums nearTicks gives settings ticks kicks strikeTicks pulls leaders].flatten → va_S A s.heap H locs → W p l e ({ frames := 0, cells := 0, slots := 0, locals := 0 } : Room) s m args below meth c H locs 0 0 QQ (F0 m 20 ls [.int (bI v_4)]) := by
    intro v_4 ls H locs e_v_4 hl hP hD hS
    subst e_v_4
    rw [← hQQ]; exact W.zret (v := bI (if (beams k) = (beams o) then true else false)) hx hb hr (nar_b _) (ct_end (F := (f_X4_hangTogether beams k o)) (u := (if (beams k) = (beams o) then true else false)) (rf := (fun u => some (.int (bI u)))) (wf := (fun _ => [stC q cI beams speeds phases springs strikes ways kickSums nearTicks gives settings ticks kicks strikeTicks pulls leaders].flatten)) rfl rfl hP hD hS) hS.2.2 dX4_hangTogether_20
  refine iv_ne hx hb 19 dX4_hangTogether_12 (by decide) (fun c_1 => ?_) (fun c_1 => ?_)
  · refine lv_iconst (v := 0) hx hb dX4_hangTogether_19 (by decide) ?_
    exact hM_5 false _ _ _ (if_neg c_1).symm (lv_sub hl [] rfl) hP hD hS
  · refine lv_iconst (v := 1) hx hb dX4_hangTogether_15 (by decide) ?_
    refine lv_goto (tgt := 20) hx hb dX4_hangTogether_16 (by decide) ?_
    exact hM_5 true _ _ _ (if_pos c_1).symm (lv_sub hl [] rfl) hP hD hS
set_option maxRecDepth 100000 in
set_option maxHeartbeats 4000000 in
theorem k_X4_gapFrom (l : Launch) (G : va_G) (cI cS cL : ClassId) (q : Nat → Nat) (beams : Nat → Int32) (speeds : Nat → Int32) (phases : Nat → Int32) (springs : Nat → Int32) (strikes : Nat → Int32) (ways : Nat → Int32) (kickSums : Nat → Int32) (nearTicks : Nat → Int32) (gives : Nat → Int32) (settings : Nat → Int32) (ticks : Int32) (kicks : Int32) (strikeTicks : Int32) (pulls : Nat → Int32) (leaders : Nat → Int32) (k : Nat) (o : Nat) (hk : k < 8) (ho : o < 8) : Ct l G (tyl cI cS cL) yX4_gapFrom cX4_gapFrom 4 (some (Jvm.ClassFile.FieldType.int)) 0 0 0 0 [.ref (q 0), .int (nI k), .int (nI o)] [stC q cI beams speeds phases springs strikes ways kickSums nearTicks gives settings ticks kicks strikeTicks pulls leaders].flatten (f_X4_gapFrom phases k o) (fun u => some (.int u)) (fun _ => [stC q cI beams speeds phases springs strikes ways kickSums nearTicks gives settings ticks kicks strikeTicks pulls leaders].flatten) := by
  refine Ct.of (by decide) (Nat.le_of_ble_eq_true rfl) ?_
  intro p e s m args below meth c A ls hx hb hr hml hw hown hlocks hin hK hN hP hD hS hA hl
  have hown : s.vm.findClass RX4 = some m.cls := hown
  have X : Cx p s m args c cX4_gapFrom 4 RX4 G (tyl cI cS cL) := ⟨hx, hb, hml, hown, hw, hK, hN⟩
  have hP : va_P G classes [stC q cI beams speeds phases springs strikes ways kickSums nearTicks gives settings ticks kicks strikeTicks pulls leaders].flatten s.heap := hP
  have hl : lv_has ls 4 [(0, .ref (q 0)), (1, .int (nI k)), (2, .int (nI o))] := hl
  generalize hQQ : MQ below _ args s 0 0 A = QQ
  refine lv_aload_n hx hb dX4_gapFrom_0 rfl (lv_at hl 0 rfl) ?_
  refine va_get (D := G) (ci := 2) (C := RX4) (T := TX4) (N := 15) hx hb hw in_X4 hown hK hP 0 rfl rfl 2 (by decide) (hw _ aw_103) (fun _ h9 => h9) rfl dX4_gapFrom_1 ?_
  refine lv_iload_n hx hb dX4_gapFrom_4 rfl (lv_at hl 2 rfl) ?_
  refine nv_iald hx hb hK hP 3 0 rfl rfl o (by omega) (by decide) dX4_gapFrom_5 ?_
  refine lv_aload_n hx hb dX4_gapFrom_6 rfl (lv_at hl 0 rfl) ?_
  refine va_get (D := G) (ci := 2) (C := RX4) (T := TX4) (N := 15) hx hb hw in_X4 hown hK hP 0 rfl rfl 2 (by decide) (hw _ aw_103) (fun _ h9 => h9) rfl dX4_gapFrom_7 ?_
  refine lv_iload_n hx hb dX4_gapFrom_10 rfl (lv_at hl 1 rfl) ?_
  refine nv_iald hx hb hK hP 3 0 rfl rfl k (by omega) (by decide) dX4_gapFrom_11 ?_
  refine lv_isub hx hb dX4_gapFrom_12 ?_
  refine lv_istore_n (lv' := [(3, .int ((phases o) - (phases k))), (0, .ref (q 0)), (1, .int (nI k)), (2, .int (nI o))]) hx hb dX4_gapFrom_13 rfl hl (by decide) rfl (fun ls hl => ?_)
  refine lv_iload_n hx hb dX4_gapFrom_14 rfl (lv_at hl 0 rfl) ?_
  refine lv_sipush (v := 500) hx hb dX4_gapFrom_15 (by decide) ?_
  refine lv_icmp_lt (tgt := 27) hx hb dX4_gapFrom_18 (by decide) (fun c_1 => ?_) (fun c_1 => ?_)
  · refine lv_iload_n hx hb dX4_gapFrom_27 rfl (lv_at hl 0 rfl) ?_
    refine lv_sipush (v := -500) hx hb dX4_gapFrom_28 (by decide) ?_
    have hM_6 : ∀ (v_5 : Int32) (ls : Array Slot) (H : Heap) (locs : List Loc), v_5 = (if (-500 : Int32) ≤ ((phases o) - (phases k)) then ((phases o) - (phases k)) else (((phases o) - (phases k)) + (1000 : Int32))) → lv_has ls 4 [] → va_P G classes [stC q cI beams speeds phases springs strikes ways kickSums nearTicks gives settings ticks kicks strikeTicks pulls leaders].flatten H → va_D A [stC q cI beams speeds phases springs strikes ways kickSums nearTicks gives settings ticks kicks strikeTicks pulls leaders].flatten → va_S A s.heap H locs → W p l e ({ frames := 0, cells := 0, slots := 0, locals := 0 } : Room) s m args below meth c H locs 0 0 QQ (F0 m 43 ls [.int v_5]) := by
      intro v_5 ls H locs e_v_5 hl hP hD hS
      subst e_v_5
      rw [← hQQ]; exact W.iret hx hb hr (ct_end (F := (f_X4_gapFrom phases k o)) (u := (if (-500 : Int32) ≤ ((phases o) - (phases k)) then ((phases o) - (phases k)) else (((phases o) - (phases k)) + (1000 : Int32)))) (rf := (fun u => some (.int u))) (wf := (fun _ => [stC q cI beams speeds phases springs strikes ways kickSums nearTicks gives settings ticks kicks strikeTicks pulls leaders].flatten)) (by unfold f_X4_gapFrom; rw [if_pos c_1]) rfl hP hD hS) hS.2.2 dX4_gapFrom_43
    refine lv_icmp_ge (tgt := 42) hx hb dX4_gapFrom_31 (by decide) (fun c_2 => ?_) (fun c_2 => ?_)
    · refine lv_iload_n hx hb dX4_gapFrom_42 rfl (lv_at hl 0 rfl) ?_
      exact hM_6 ((phases o) - (phases k)) _ _ _ (if_pos c_2).symm (lv_sub hl [] rfl) hP hD hS
    · refine lv_iload_n hx hb dX4_gapFrom_34 rfl (lv_at hl 0 rfl) ?_
      refine lv_sipush (v := 1000) hx hb dX4_gapFrom_35 (by decide) ?_
      refine lv_iadd hx hb dX4_gapFrom_38 ?_
      refine lv_goto (tgt := 43) hx hb dX4_gapFrom_39 (by decide) ?_
      exact hM_6 (((phases o) - (phases k)) + (1000 : Int32)) _ _ _ (if_neg c_2).symm (lv_sub hl [] rfl) hP hD hS
  · refine lv_iload_n hx hb dX4_gapFrom_21 rfl (lv_at hl 0 rfl) ?_
    refine lv_sipush (v := 1000) hx hb dX4_gapFrom_22 (by decide) ?_
    refine lv_isub hx hb dX4_gapFrom_25 ?_
    rw [← hQQ]; exact W.iret hx hb hr (ct_end (F := (f_X4_gapFrom phases k o)) (u := (((phases o) - (phases k)) - (1000 : Int32))) (rf := (fun u => some (.int u))) (wf := (fun _ => [stC q cI beams speeds phases springs strikes ways kickSums nearTicks gives settings ticks kicks strikeTicks pulls leaders].flatten)) (by unfold f_X4_gapFrom; rw [if_neg c_1]) rfl hP hD hS) hS.2.2 dX4_gapFrom_26
set_option maxRecDepth 100000 in
set_option maxHeartbeats 4000000 in
theorem k_X4_areNear (l : Launch) (G : va_G) (cI cS cL : ClassId) (q : Nat → Nat) (beams : Nat → Int32) (speeds : Nat → Int32) (phases : Nat → Int32) (springs : Nat → Int32) (strikes : Nat → Int32) (ways : Nat → Int32) (kickSums : Nat → Int32) (nearTicks : Nat → Int32) (gives : Nat → Int32) (settings : Nat → Int32) (ticks : Int32) (kicks : Int32) (strikeTicks : Int32) (pulls : Nat → Int32) (leaders : Nat → Int32) (k : Nat) (o : Nat) (hk : k < 8) (ho : o < 8) : Ct l G (tyl cI cS cL) yX4_areNear cX4_areNear 3 (some (Jvm.ClassFile.FieldType.boolean)) 1 23 0 0 [.ref (q 0), .int (nI k), .int (nI o)] [stC q cI beams speeds phases springs strikes ways kickSums nearTicks gives settings ticks kicks strikeTicks pulls leaders].flatten (f_X4_areNear phases settings k o) (fun u => some (.int (bI u))) (fun _ => [stC q cI beams speeds phases springs strikes ways kickSums nearTicks gives settings ticks kicks strikeTicks pulls leaders].flatten) := by
  refine Ct.of (by decide) (Nat.le_of_ble_eq_true rfl) ?_
  intro p e s m args below meth c A ls hx hb hr hml hw hown hlocks hin hK hN hP hD hS hA hl
  have hown : s.vm.findClass RX4 = some m.cls := hown
  have X : Cx p s m args c cX4_areNear 3 RX4 G (tyl cI cS cL) := ⟨hx, hb, hml, hown, hw, hK, hN⟩
  have hP : va_P G classes [stC q cI beams speeds phases springs strikes ways kickSums nearTicks gives settings ticks kicks strikeTicks pulls leaders].flatten s.heap := hP
  have hl : lv_has ls 3 [(0, .ref (q 0)), (1, .int (nI k)), (2, .int (nI o))] := hl
  generalize hQQ : MQ below _ args s 0 0 A = QQ
  refine lv_aload_n hx hb dX4_areNear_0 rfl (lv_at hl 0 rfl) ?_
  refine lv_iload_n hx hb dX4_areNear_1 rfl (lv_at hl 1 rfl) ?_
  refine lv_iload_n hx hb dX4_areNear_2 rfl (lv_at hl 2 rfl) ?_
  refine ct_callV (As := [.int (nI k), .int (nI o)]) (rest := []) X hP hD hS hA (k_X4_gapFrom l G cI cS cL q beams speeds phases springs strikes ways kickSums nearTicks gives settings ticks kicks strikeTicks pulls leaders k o (by omega) (by omega)) cp_X4_gapFrom aw_339 ⟨Nat.le_of_ble_eq_true rfl, Nat.le_of_ble_eq_true rfl⟩ [0] (cs := [stC q cI beams speeds phases springs strikes ways kickSums nearTicks gives settings ticks kicks strikeTicks pulls leaders]) rfl (by decide) (cs' := [stC q cI beams speeds phases springs strikes ways kickSums nearTicks gives settings ticks kicks strikeTicks pulls leaders]) rfl rfl 2 rfl rfl (q0 := 0) rfl rfl hl.1 rfl (by decide) dX4_areNear_3 ⟨Nat.zero_le _, Nat.zero_le _⟩ rfl (bs' := [stC q cI beams speeds phases springs strikes ways kickSums nearTicks gives settings ticks kicks strikeTicks pulls leaders]) rfl (fun H locs hP hD hS => ?_)
  refine va_mabs hx hb (hml.trans hl.1.symm) hown (hw _ aw_369) (hw _ aw_370) (hw _ aw_79) (hw _ aw_371) (Nat.le_of_ble_eq_true rfl) (Nat.le_of_ble_eq_true rfl) (Nat.zero_le _) (Nat.zero_le _) dX4_areNear_6 ?_
  refine lv_aload_n hx hb dX4_areNear_9 rfl (lv_at hl 0 rfl) ?_
  refine va_get (D := G) (ci := 2) (C := RX4) (T := TX4) (N := 15) hx hb hw in_X4 hown hK hP 0 rfl rfl 9 (by decide) (hw _ aw_114) (fun _ h9 => h9) rfl dX4_areNear_10 ?_
  refine lv_iconst (v := 1) hx hb dX4_areNear_13 (by decide) ?_
  refine nv_iald hx hb hK hP 10 0 rfl rfl 1 (by omega) (by decide) dX4_areNear_14 ?_
  have hM_5 : ∀ (v_4 : Bool) (ls : Array Slot) (H : Heap) (locs : List Loc), v_4 = (if (settings 1) < (if 0 ≤ (f_X4_gapFrom phases k o) then (f_X4_gapFrom phases k o) else 0 - (f_X4_gapFrom phases k o)) then false else true) → lv_has ls 3 [] → va_P G classes [stC q cI beams speeds phases springs strikes ways kickSums nearTicks gives settings ticks kicks strikeTicks pulls leaders].flatten H → va_D A [stC q cI beams speeds phases springs strikes ways kickSums nearTicks gives settings ticks kicks strikeTicks pulls leaders].flatten → va_S A s.heap H locs → W p l e ({ frames := 1, cells := 0, slots := 0, locals := 23 } : Room) s m args below meth c H locs 0 0 QQ (F0 m 23 ls [.int (bI v_4)]) := by
    intro v_4 ls H locs e_v_4 hl hP hD hS
    subst e_v_4
    rw [← hQQ]; exact W.zret (v := bI (if (settings 1) < (if 0 ≤ (f_X4_gapFrom phases k o) then (f_X4_gapFrom phases k o) else 0 - (f_X4_gapFrom phases k o)) then false else true)) hx hb hr (nar_b _) (ct_end (F := (f_X4_areNear phases settings k o)) (u := (if (settings 1) < (if 0 ≤ (f_X4_gapFrom phases k o) then (f_X4_gapFrom phases k o) else 0 - (f_X4_gapFrom phases k o)) then false else true)) (rf := (fun u => some (.int (bI u)))) (wf := (fun _ => [stC q cI beams speeds phases springs strikes ways kickSums nearTicks gives settings ticks kicks strikeTicks pulls leaders].flatten)) rfl rfl hP hD hS) hS.2.2 dX4_areNear_23
  refine lv_icmp_gt (tgt := 22) hx hb dX4_areNear_15 (by decide) (fun c_1 => ?_) (fun c_1 => ?_)
  · refine lv_iconst (v := 0) hx hb dX4_areNear_22 (by decide) ?_
    exact hM_5 false _ _ _ (if_pos c_1).symm (lv_sub hl [] rfl) hP hD hS
  · refine lv_iconst (v := 1) hx hb dX4_areNear_18 (by decide) ?_
    refine lv_goto (tgt := 23) hx hb dX4_areNear_19 (by decide) ?_
    exact hM_5 true _ _ _ (if_neg c_1).symm (lv_sub hl [] rfl) hP hD hS
set_option maxRecDepth 100000 in
set_option maxHeartbeats 4000000 in
theorem k_X4_areLocked (l : Launch) (G : va_G) (cI cS cL : ClassId) (q : Nat → Nat) (beams : Nat → Int32) (speeds : Nat → Int32) (phases : Nat → Int32) (springs : Nat → Int32) (strikes : Nat → Int32) (ways : Nat → Int32) (kickSums : Nat → Int32) (nearTicks : Nat → Int32) (gives : Nat → Int32) (settings : Nat → Int32) (ticks : Int32) (kicks : Int32) (strikeTicks : Int32) (pulls : Nat → Int32) (leaders : Nat → Int32) (k : Nat) (o : Nat) (hk : k < 8) (ho : o < 8) : Ct l G (tyl cI cS cL) yX4_areLocked cX4_areLocked 3 (some (Jvm.ClassFile.FieldType.boolean)) 0 0 0 0 [.ref (q 0), .int (nI k), .int (nI o)] [stC q cI beams speeds phases springs strikes ways kickSums nearTicks gives settings ticks kicks strikeTicks pulls leaders].flatten (f_X4_areLocked nearTicks settings k o) (fun u => some (.int (bI u))) (fun _ => [stC q cI beams speeds phases springs strikes ways kickSums nearTicks gives settings ticks kicks strikeTicks pulls leaders].flatten) := by
  refine Ct.of (by decide) (Nat.le_of_ble_eq_true rfl) ?_
  intro p e s m args below meth c A ls hx hb hr hml hw hown hlocks hin hK hN hP hD hS hA hl
  have hown : s.vm.findClass RX4 = some m.cls := hown
  have X : Cx p s m args c cX4_areLocked 3 RX4 G (tyl cI cS cL) := ⟨hx, hb, hml, hown, hw, hK, hN⟩
  have hP : va_P G classes [stC q cI beams speeds phases springs strikes ways kickSums nearTicks gives settings ticks kicks strikeTicks pulls leaders].flatten s.heap := hP
  have hl : lv_has ls 3 [(0, .ref (q 0)), (1, .int (nI k)), (2, .int (nI o))] := hl
  generalize hQQ : MQ below _ args s 0 0 A = QQ
  refine lv_aload_n hx hb dX4_areLocked_0 rfl (lv_at hl 0 rfl) ?_
  refine va_get (D := G) (ci := 2) (C := RX4) (T := TX4) (N := 15) hx hb hw in_X4 hown hK hP 0 rfl rfl 7 (by decide) (hw _ aw_111) (fun _ h9 => h9) rfl dX4_areLocked_1 ?_
  refine lv_iload_n hx hb dX4_areLocked_4 rfl (lv_at hl 1 rfl) ?_
  refine lv_bipush (v := 8) hx hb dX4_areLocked_5 (by decide) ?_
  refine nv_imul hx hb k 8 dX4_areLocked_7 ?_
  refine lv_iload_n hx hb dX4_areLocked_8 rfl (lv_at hl 2 rfl) ?_
  refine nv_iadd hx hb (k * 8) o dX4_areLocked_9 ?_
  refine nv_iald hx hb hK hP 8 0 rfl rfl ((k * 8) + o) (by omega) (by decide) dX4_areLocked_10 ?_
  refine lv_aload_n hx hb dX4_areLocked_11 rfl (lv_at hl 0 rfl) ?_
  refine va_get (D := G) (ci := 2) (C := RX4) (T := TX4) (N := 15) hx hb hw in_X4 hown hK hP 0 rfl rfl 9 (by decide) (hw _ aw_114) (fun _ h9 => h9) rfl dX4_areLocked_12 ?_
  refine lv_iconst (v := 2) hx hb dX4_areLocked_15 (by decide) ?_
  refine nv_iald hx hb hK hP 10 0 rfl rfl 2 (by omega) (by decide) dX4_areLocked_16 ?_
  have hM_5 : ∀ (v_4 : Bool) (ls : Array Slot) (H : Heap) (locs : List Loc), v_4 = (if (nearTicks ((k * 8) + o)) < (settings 2) then false else true) → lv_has ls 3 [] → va_P G classes [stC q cI beams speeds phases springs strikes ways kickSums nearTicks gives settings ticks kicks strikeTicks pulls leaders].flatten H → va_D A [stC q cI beams speeds phases springs strikes ways kickSums nearTicks gives settings ticks kicks strikeTicks pulls leaders].flatten → va_S A s.heap H locs → W p l e ({ frames := 0, cells := 0, slots := 0, locals := 0 } : Room) s m args below meth c H locs 0 0 QQ (F0 m 25 ls [.int (bI v_4)]) := by
    intro v_4 ls H locs e_v_4 hl hP hD hS
    subst e_v_4
    rw [← hQQ]; exact W.zret (v := bI (if (nearTicks ((k * 8) + o)) < (settings 2) then false else true)) hx hb hr (nar_b _) (ct_end (F := (f_X4_areLocked nearTicks settings k o)) (u := (if (nearTicks ((k * 8) + o)) < (settings 2) then false else true)) (rf := (fun u => some (.int (bI u)))) (wf := (fun _ => [stC q cI beams speeds phases springs strikes ways kickSums nearTicks gives settings ticks kicks strikeTicks pulls leaders].flatten)) rfl rfl hP hD hS) hS.2.2 dX4_areLocked_25
  refine lv_icmp_lt (tgt := 24) hx hb dX4_areLocked_17 (by decide) (fun c_1 => ?_) (fun c_1 => ?_)
  · refine lv_iconst (v := 0) hx hb dX4_areLocked_24 (by decide) ?_
    exact hM_5 false _ _ _ (if_pos c_1).symm (lv_sub hl [] rfl) hP hD hS
  · refine lv_iconst (v := 1) hx hb dX4_areLocked_20 (by decide) ?_
    refine lv_goto (tgt := 25) hx hb dX4_areLocked_21 (by decide) ?_
    exact hM_5 true _ _ _ (if_neg c_1).symm (lv_sub hl [] rfl) hP hD hS
set_option maxRecDepth 100000 in
set_option maxHeartbeats 4000000 in
theorem k_X4_setTicksNear (l : Launch) (G : va_G) (cI cS cL : ClassId) (q : Nat → Nat) (beams : Nat → Int32) (speeds : Nat → Int32) (phases : Nat → Int32) (springs : Nat → Int32) (strikes : Nat → Int32) (ways : Nat → Int32) (kickSums : Nat → Int32) (nearTicks : Nat → Int32) (gives : Nat → Int32) (settings : Nat → Int32) (ticks : Int32) (kicks : Int32) (strikeTicks : Int32) (pulls : Nat → Int32) (leaders : Nat → Int32) (k : Nat) (o : Nat) (cnt : Int32) (hk : k < 8) (ho : o < 8) : Ct l G (tyl cI cS cL) yX4_setTicksNear cX4_setTicksNear 4 none 0 0 0 0 [.ref (q 0), .int (nI k), .int (nI o), .int cnt] [stC q cI beams speeds phases springs strikes ways kickSums nearTicks gives settings ticks kicks strikeTicks pulls leaders].flatten (f_X4_setTicksNear nearTicks k o cnt) (fun _ => none) (fun u => [stC q cI beams speeds phases springs strikes ways kickSums u gives settings ticks kicks strikeTicks pulls leaders].flatten) := by
  refine Ct.of (by decide) (Nat.le_of_ble_eq_true rfl) ?_
  intro p e s m args below meth c A ls hx hb hr hml hw hown hlocks hin hK hN hP hD hS hA hl
  have hown : s.vm.findClass RX4 = some m.cls := hown
  have X : Cx p s m args c cX4_setTicksNear 4 RX4 G (tyl cI cS cL) := ⟨hx, hb, hml, hown, hw, hK, hN⟩
  have hP : va_P G classes [stC q cI beams speeds phases springs strikes ways kickSums nearTicks gives settings ticks kicks strikeTicks pulls leaders].flatten s.heap := hP
  have hl : lv_has ls 4 [(0, .ref (q 0)), (1, .int (nI k)), (2, .int (nI o)), (3, .int cnt)] := hl
  generalize hQQ : MQ below _ args s 0 0 A = QQ
  refine lv_aload_n hx hb dX4_setTicksNear_0 rfl (lv_at hl 0 rfl) ?_
  refine va_get (D := G) (ci := 2) (C := RX4) (T := TX4) (N := 15) hx hb hw in_X4 hown hK hP 0 rfl rfl 7 (by decide) (hw _ aw_111) (fun _ h9 => h9) rfl dX4_setTicksNear_1 ?_
  refine lv_iload_n hx hb dX4_setTicksNear_4 rfl (lv_at hl 1 rfl) ?_
  refine lv_bipush (v := 8) hx hb dX4_setTicksNear_5 (by decide) ?_
  refine nv_imul hx hb k 8 dX4_setTicksNear_7 ?_
  refine lv_iload_n hx hb dX4_setTicksNear_8 rfl (lv_at hl 2 rfl) ?_
  refine nv_iadd hx hb (k * 8) o dX4_setTicksNear_9 ?_
  refine lv_iload_n hx hb dX4_setTicksNear_10 rfl (lv_at hl 3 rfl) ?_
  refine nv_iast hx hb hK hP hD hS 8 0 rfl rfl ((k * 8) + o) (by omega) (by decide) dX4_setTicksNear_11 (ws' := [stC q cI beams speeds phases springs strikes ways kickSums (upd nearTicks ((k * 8) + o) cnt) gives settings ticks kicks strikeTicks pulls leaders].flatten) rfl (fun H locs hP hD hS => ?_)
  refine lv_aload_n hx hb dX4_setTicksNear_12 rfl (lv_at hl 0 rfl) ?_
  refine va_get (D := G) (ci := 2) (C := RX4) (T := TX4) (N := 15) hx hb hw in_X4 hown hK hP 0 rfl rfl 7 (by decide) (hw _ aw_111) (fun _ h9 => h9) rfl dX4_setTicksNear_13 ?_
  refine lv_iload_n hx hb dX4_setTicksNear_16 rfl (lv_at hl 2 rfl) ?_
  refine lv_bipush (v := 8) hx hb dX4_setTicksNear_17 (by decide) ?_
  refine nv_imul hx hb o 8 dX4_setTicksNear_19 ?_
  refine lv_iload_n hx hb dX4_setTicksNear_20 rfl (lv_at hl 1 rfl) ?_
  refine nv_iadd hx hb (o * 8) k dX4_setTicksNear_21 ?_
  refine lv_iload_n hx hb dX4_setTicksNear_22 rfl (lv_at hl 3 rfl) ?_
  refine nv_iast hx hb hK hP hD hS 8 0 rfl rfl ((o * 8) + k) (by omega) (by decide) dX4_setTicksNear_23 (ws' := [stC q cI beams speeds phases springs strikes ways kickSums (upd (upd nearTicks ((k * 8) + o) cnt) ((o * 8) + k) cnt) gives settings ticks kicks strikeTicks pulls leaders].flatten) rfl (fun H locs hP hD hS => ?_)
  rw [← hQQ]; exact W.vret hx hb hr (ct_end (F := (f_X4_setTicksNear nearTicks k o cnt)) (u := (upd (upd nearTicks ((k * 8) + o) cnt) ((o * 8) + k) cnt)) (rf := (fun _ => none)) (wf := (fun u => [stC q cI beams speeds phases springs strikes ways kickSums u gives settings ticks kicks strikeTicks pulls leaders].flatten)) rfl rfl hP hD hS) hS.2.2 dX4_setTicksNear_24
set_option maxRecDepth 100000 in
set_option maxHeartbeats 4000000 in
theorem k_X4_lookAtPairs (l : Launch) (G : va_G) (cI cS cL : ClassId) (q : Nat → Nat) (beams : Nat → Int32) (speeds : Nat → Int32) (phases : Nat → Int32) (springs : Nat → Int32) (strikes : Nat → Int32) (ways : Nat → Int32) (kickSums : Nat → Int32) (nearTicks : Nat → Int32) (gives : Nat → Int32) (settings : Nat → Int32) (ticks : Int32) (kicks : Int32) (strikeTicks : Int32) (pulls : Nat → Int32) (leaders : Nat → Int32) : Ct l G (tyl cI cS cL) yX4_lookAtPairs cX4_lookAtPairs 4 none 2 45 0 0 [.ref (q 0)] [stC q cI beams speeds phases springs strikes ways kickSums nearTicks gives settings ticks kicks strikeTicks pulls leaders].flatten (f_X4_lookAtPairs beams phases springs nearTicks settings) (fun _ => none) (fun u => [stC q cI beams speeds phases springs strikes ways kickSums u gives settings ticks kicks strikeTicks pulls leaders].flatten) := by
  refine Ct.of (by decide) (Nat.le_of_ble_eq_true rfl) ?_
  intro p e s m args below meth c A ls hx hb hr hml hw hown hlocks hin hK hN hP hD hS hA hl
  have hown : s.vm.findClass RX4 = some m.cls := hown
  have X : Cx p s m args c cX4_lookAtPairs 4 RX4 G (tyl cI cS cL) := ⟨hx, hb, hml, hown, hw, hK, hN⟩
  have hP : va_P G classes [stC q cI beams speeds phases springs strikes ways kickSums nearTicks gives settings ticks kicks strikeTicks pulls leaders].flatten s.heap := hP
  have hl : lv_has ls 4 [(0, .ref (q 0))] := hl
  generalize hQQ : MQ below _ args s 0 0 A = QQ
  refine lv_iconst (v := 0) hx hb dX4_lookAtPairs_0 (by decide) ?_
  refine lv_istore_n (lv' := [(1, .int (0 : Int32)), (0, .ref (q 0))]) hx hb dX4_lookAtPairs_1 rfl hl (by decide) rfl (fun ls hl => ?_)
  refine it_loop (f := (L_X4_lookAtPairs_2 beams phases springs settings)) 8 (fun (i2 : Nat) (s2 : (Nat → Int32)) => ∀ (ls : Array Slot) (H : Heap) (locs : List Loc), lv_has ls 4 [(1, .int (nI i2)), (0, .ref (q 0))] → va_P G classes [stC q cI beams speeds phases springs strikes ways kickSums s2 gives settings ticks kicks strikeTicks pulls leaders].flatten H → va_D A [stC q cI beams speeds phases springs strikes ways kickSums s2 gives settings ticks kicks strikeTicks pulls leaders].flatten → va_S A s.heap H locs → W p l e ({ frames := 2, cells := 0, slots := 0, locals := 45 } : Room) s m args below meth c H locs 0 0 QQ (F0 m 2 ls [])) (fun i2 s2 hi2 ih => ?_) 8 0 nearTicks (by omega) ?_ ls _ _ (lv_sub hl [0, 1] rfl) hP hD hS
  · intro ls H locs hl hP hD hS
    refine lv_iload_n hx hb dX4_lookAtPairs_2 rfl (lv_at hl 0 rfl) ?_
    refine lv_bipush (v := 8) hx hb dX4_lookAtPairs_3 (by decide) ?_
    refine nv_ge hx hb i2 8 97 (by omega) (by omega) dX4_lookAtPairs_5 (by decide) (fun hc => absurd hc (by omega)) (fun _ => ?_)
    refine lv_iload_n hx hb dX4_lookAtPairs_8 rfl (lv_at hl 0 rfl) ?_
    refine lv_iconst (v := 1) hx hb dX4_lookAtPairs_9 (by decide) ?_
    refine nv_iadd hx hb i2 1 dX4_lookAtPairs_10 ?_
    refine lv_istore_n (lv' := [(2, .int (nI (i2 + 1))), (1, .int (nI i2)), (0, .ref (q 0))]) hx hb dX4_lookAtPairs_11 rfl hl (by decide) rfl (fun ls hl => ?_)
    refine it_loop (f := (L_X4_lookAtPairs_12 beams phases springs settings i2)) 8 (fun (i12 : Nat) (s12 : (Nat → Int32)) => ∀ (ls : Array Slot) (H : Heap) (locs : List Loc), lv_has ls 4 [(2, .int (nI i12)), (1, .int (nI i2)), (0, .ref (q 0))] → va_P G classes [stC q cI beams speeds phases springs strikes ways kickSums s12 gives settings ticks kicks strikeTicks pulls leaders].flatten H → va_D A [stC q cI beams speeds phases springs strikes ways kickSums s12 gives settings ticks kicks strikeTicks pulls leaders].flatten → va_S A s.heap H locs → W p l e ({ frames := 2, cells := 0, slots := 0, locals := 45 } : Room) s m args below meth c H locs 0 0 QQ (F0 m 12 ls [])) (fun i12 s12 hi12 ih => ?_) (8 - (i2 + 1)) (i2 + 1) s2 (by omega) ?_ ls _ _ (lv_sub hl [0, 1, 2] rfl) hP hD hS
    · intro ls H locs hl hP hD hS
      refine lv_iload_n hx hb dX4_lookAtPairs_12 rfl (lv_at hl 0 rfl) ?_
      refine lv_bipush (v := 8) hx hb dX4_lookAtPairs_13 (by decide) ?_
      refine nv_ge hx hb i12 8 91 (by omega) (by omega) dX4_lookAtPairs_15 (by decide) (fun hc => absurd hc (by omega)) (fun _ => ?_)
      refine lv_aload_n hx hb dX4_lookAtPairs_18 rfl (lv_at hl 2 rfl) ?_
      refine lv_iload_n hx hb dX4_lookAtPairs_19 rfl (lv_at hl 1 rfl) ?_
      refine ct_callV (As := [.int (nI i2)]) (rest := []) X hP hD hS hA (k_X4_goes l G cI cS cL q beams speeds phases springs strikes ways kickSums s12 gives settings ticks kicks strikeTicks pulls leaders i2 (by omega)) cp_X4_goes aw_330 ⟨Nat.le_of_ble_eq_true rfl, Nat.le_of_ble_eq_true rfl⟩ [0] (cs := [stC q cI beams speeds phases springs strikes ways kickSums s12 gives settings ticks kicks strikeTicks pulls leaders]) rfl (by decide) (cs' := [stC q cI beams speeds phases springs strikes ways kickSums s12 gives settings ticks kicks strikeTicks pulls leaders]) rfl rfl 2 rfl rfl (q0 := 0) rfl rfl hl.1 rfl (by decide) dX4_lookAtPairs_20 ⟨Nat.zero_le _, Nat.zero_le _⟩ rfl (bs' := [stC q cI beams speeds phases springs strikes ways kickSums s12 gives settings ticks kicks strikeTicks pulls leaders]) rfl (fun H locs hP hD hS => ?_)
      have hM_24 : ∀ (v_23 : Bool) (ls : Array Slot) (H : Heap) (locs : List Loc), v_23 = (if (f_X4_goes springs i2) = true then (if (f_X4_goes springs i12) = true then (if (f_X4_hangTogether beams i2 i12) = true then (if (f_X4_areNear phases settings i2 i12) = true then true else false) else false) else false) else false) → lv_has ls 4 [(2, .int (nI i12)), (1, .int (nI i2)), (0, .ref (q 0))] → va_P G classes [stC q cI beams speeds phases springs strikes ways kickSums s12 gives settings ticks kicks strikeTicks pulls leaders].flatten H → va_D A [stC q cI beams speeds phases springs strikes ways kickSums s12 gives settings ticks kicks strikeTicks pulls leaders].flatten → va_S A s.heap H locs → W p l e ({ frames := 2, cells := 0, slots := 0, locals := 45 } : Room) s m args below meth c H locs 0 0 QQ (F0 m 57 ls [.int (bI v_23)]) := by
        intro v_23 ls H locs e_v_23 hl hP hD hS
        subst e_v_23
        refine lv_istore_n (lv' := [(3, .int (bI (if (f_X4_goes springs i2) = true then (if (f_X4_goes springs i12) = true then (if (f_X4_hangTogether beams i2 i12) = true then (if (f_X4_areNear phases settings i2 i12) = true then true else false) else false) else false) else false))), (2, .int (nI i12)), (1, .int (nI i2)), (0, .ref (q 0))]) hx hb dX4_lookAtPairs_57 rfl hl (by decide) rfl (fun ls hl => ?_)
        refine lv_aload_n hx hb dX4_lookAtPairs_58 rfl (lv_at hl 3 rfl) ?_
        refine lv_iload_n hx hb dX4_lookAtPairs_59 rfl (lv_at hl 2 rfl) ?_
        refine lv_iload_n hx hb dX4_lookAtPairs_60 rfl (lv_at hl 1 rfl) ?_
        refine lv_iload_n hx hb dX4_lookAtPairs_61 rfl (lv_at hl 0 rfl) ?_
        have hM_29 : ∀ (v_28 : Int32) (ls : Array Slot) (H : Heap) (locs : List Loc), v_28 = (if (if (f_X4_goes springs i2) = true then (if (f_X4_goes springs i12) = true then (if (f_X4_hangTogether beams i2 i12) = true then (if (f_X4_areNear phases settings i2 i12) = true then true else false) else false) else false) else false) = true then ((s12 ((i2 * 8) + i12)) + (1 : Int32)) else (0 : Int32)) → lv_has ls 4 [(2, .int (nI i12)), (1, .int (nI i2)), (0, .ref (q 0))] → va_P G classes [stC q cI beams speeds phases springs strikes ways kickSums s12 gives settings ticks kicks strikeTicks pulls leaders].flatten H → va_D A [stC q cI beams speeds phases springs strikes ways kickSums s12 gives settings ticks kicks strikeTicks pulls leaders].flatten → va_S A s.heap H locs → W p l e ({ frames := 2, cells := 0, slots := 0, locals := 45 } : Room) s m args below meth c H locs 0 0 QQ (F0 m 82 ls [.int v_28, .int (nI i12), .int (nI i2), .ref (q 0)]) := by
          intro v_28 ls H locs e_v_28 hl hP hD hS
          subst e_v_28
          refine ct_callV (As := [.int (nI i2), .int (nI i12), .int (if (if (f_X4_goes springs i2) = true then (if (f_X4_goes springs i12) = true then (if (f_X4_hangTogether beams i2 i12) = true then (if (f_X4_areNear phases settings i2 i12) = true then true else false) else false) else false) else false) = true then ((s12 ((i2 * 8) + i12)) + (1 : Int32)) else (0 : Int32))]) (rest := []) X hP hD hS hA (k_X4_setTicksNear l G cI cS cL q beams speeds phases springs strikes ways kickSums s12 gives settings ticks kicks strikeTicks pulls leaders i2 i12 (if (if (f_X4_goes springs i2) = true then (if (f_X4_goes springs i12) = true then (if (f_X4_hangTogether beams i2 i12) = true then (if (f_X4_areNear phases settings i2 i12) = true then true else false) else false) else false) else false) = true then ((s12 ((i2 * 8) + i12)) + (1 : Int32)) else (0 : Int32)) (by omega) (by omega)) cp_X4_setTicksNear aw_372 ⟨Nat.le_of_ble_eq_true rfl, Nat.le_of_ble_eq_true rfl⟩ [0] (cs := [stC q cI beams speeds phases springs strikes ways kickSums s12 gives settings ticks kicks strikeTicks pulls leaders]) rfl (by decide) (cs' := [stC q cI beams speeds phases springs strikes ways kickSums (f_X4_setTicksNear s12 i2 i12 (if (if (f_X4_goes springs i2) = true then (if (f_X4_goes springs i12) = true then (if (f_X4_hangTogether beams i2 i12) = true then (if (f_X4_areNear phases settings i2 i12) = true then true else false) else false) else false) else false) = true then ((s12 ((i2 * 8) + i12)) + (1 : Int32)) else (0 : Int32))) gives settings ticks kicks strikeTicks pulls leaders]) rfl rfl 2 rfl rfl (q0 := 0) rfl rfl hl.1 rfl (by decide) dX4_lookAtPairs_82 ⟨Nat.zero_le _, Nat.zero_le _⟩ rfl (bs' := [stC q cI beams speeds phases springs strikes ways kickSums (f_X4_setTicksNear s12 i2 i12 (if (if (f_X4_goes springs i2) = true then (if (f_X4_goes springs i12) = true then (if (f_X4_hangTogether beams i2 i12) = true then (if (f_X4_areNear phases settings i2 i12) = true then true else false) else false) else false) else false) = true then ((s12 ((i2 * 8) + i12)) + (1 : Int32)) else (0 : Int32))) gives settings ticks kicks strikeTicks pulls leaders]) rfl (fun H locs hP hD hS => ?_)
          refine nv_iinc (k := 0) (lv' := [(2, .int (nI (i12 + 1))), (1, .int (nI i2)), (0, .ref (q 0))]) hx hb i12 dX4_lookAtPairs_85 hl rfl (by decide) rfl (fun ls hl => ?_)
          refine lv_goto (tgt := 12) hx hb dX4_lookAtPairs_88 (by decide) ?_
          exact ih _ _ _ (lv_sub hl [0, 1, 2] rfl) hP hD hS
        refine bv_ifeq hx hb (if (f_X4_goes springs i2) = true then (if (f_X4_goes springs i12) = true then (if (f_X4_hangTogether beams i2 i12) = true then (if (f_X4_areNear phases settings i2 i12) = true then true else false) else false) else false) else false) 81 dX4_lookAtPairs_62 (by decide) (fun c_25 => ?_) (fun c_25 => ?_)
        · refine lv_iconst (v := 0) hx hb dX4_lookAtPairs_81 (by decide) ?_
          exact hM_29 (0 : Int32) _ _ _ (if_neg c_25).symm (lv_sub hl [1, 2, 3] rfl) hP hD hS
        · refine lv_aload_n hx hb dX4_lookAtPairs_65 rfl (lv_at hl 3 rfl) ?_
          refine va_get (D := G) (ci := 2) (C := RX4) (T := TX4) (N := 15) hx hb hw in_X4 hown hK hP 0 rfl rfl 7 (by decide) (hw _ aw_111) (fun _ h9 => h9) rfl dX4_lookAtPairs_66 ?_
          refine lv_iload_n hx hb dX4_lookAtPairs_69 rfl (lv_at hl 2 rfl) ?_
          refine lv_bipush (v := 8) hx hb dX4_lookAtPairs_70 (by decide) ?_
          refine nv_imul hx hb i2 8 dX4_lookAtPairs_72 ?_
          refine lv_iload_n hx hb dX4_lookAtPairs_73 rfl (lv_at hl 1 rfl) ?_
          refine nv_iadd hx hb (i2 * 8) i12 dX4_lookAtPairs_74 ?_
          refine nv_iald hx hb hK hP 8 0 rfl rfl ((i2 * 8) + i12) (by omega) (by decide) dX4_lookAtPairs_75 ?_
          refine lv_iconst (v := 1) hx hb dX4_lookAtPairs_76 (by decide) ?_
          refine lv_iadd hx hb dX4_lookAtPairs_77 ?_
          refine lv_goto (tgt := 82) hx hb dX4_lookAtPairs_78 (by decide) ?_
          exact hM_29 ((s12 ((i2 * 8) + i12)) + (1 : Int32)) _ _ _ (if_pos c_25).symm (lv_sub hl [1, 2, 3] rfl) hP hD hS
      refine bv_ifeq hx hb (f_X4_goes springs i2) 56 dX4_lookAtPairs_23 (by decide) (fun c_5 => ?_) (fun c_5 => ?_)
      · refine lv_iconst (v := 0) hx hb dX4_lookAtPairs_56 (by decide) ?_
        exact hM_24 false _ _ _ (if_neg c_5).symm (lv_sub hl [0, 1, 2] rfl) hP hD hS
      · refine lv_aload_n hx hb dX4_lookAtPairs_26 rfl (lv_at hl 2 rfl) ?_
        refine lv_iload_n hx hb dX4_lookAtPairs_27 rfl (lv_at hl 0 rfl) ?_
        refine ct_callV (As := [.int (nI i12)]) (rest := []) X hP hD hS hA (k_X4_goes l G cI cS cL q beams speeds phases springs strikes ways kickSums s12 gives settings ticks kicks strikeTicks pulls leaders i12 (by omega)) cp_X4_goes aw_330 ⟨Nat.le_of_ble_eq_true rfl, Nat.le_of_ble_eq_true rfl⟩ [0] (cs := [stC q cI beams speeds phases springs strikes ways kickSums s12 gives settings ticks kicks strikeTicks pulls leaders]) rfl (by decide) (cs' := [stC q cI beams speeds phases springs strikes ways kickSums s12 gives settings ticks kicks strikeTicks pulls leaders]) rfl rfl 2 rfl rfl (q0 := 0) rfl rfl hl.1 rfl (by decide) dX4_lookAtPairs_28 ⟨Nat.zero_le _, Nat.zero_le _⟩ rfl (bs' := [stC q cI beams speeds phases springs strikes ways kickSums s12 gives settings ticks kicks strikeTicks pulls leaders]) rfl (fun H locs hP hD hS => ?_)
        have hM_21 : ∀ (v_20 : Bool) (ls : Array Slot) (H : Heap) (locs : List Loc), v_20 = (if (f_X4_goes springs i12) = true then (if (f_X4_hangTogether beams i2 i12) = true then (if (f_X4_areNear phases settings i2 i12) = true then true else false) else false) else false) → lv_has ls 4 [(2, .int (nI i12)), (1, .int (nI i2)), (0, .ref (q 0))] → va_P G classes [stC q cI beams speeds phases springs strikes ways kickSums s12 gives settings ticks kicks strikeTicks pulls leaders].flatten H → va_D A [stC q cI beams speeds phases springs strikes ways kickSums s12 gives settings ticks kicks strikeTicks pulls leaders].flatten → va_S A s.heap H locs → W p l e ({ frames := 2, cells := 0, slots := 0, locals := 45 } : Room) s m args below meth c H locs 0 0 QQ (F0 m 57 ls [.int (bI v_20)]) := by
          intro v_20 ls H locs e_v_20 hl hP hD hS
          subst e_v_20
          exact hM_24 (if (f_X4_goes springs i12) = true then (if (f_X4_hangTogether beams i2 i12) = true then (if (f_X4_areNear phases settings i2 i12) = true then true else false) else false) else false) _ _ _ (if_pos c_5).symm (lv_sub hl [0, 1, 2] rfl) hP hD hS
        refine bv_ifeq hx hb (f_X4_goes springs i12) 56 dX4_lookAtPairs_31 (by decide) (fun c_7 => ?_) (fun c_7 => ?_)
        · refine lv_iconst (v := 0) hx hb dX4_lookAtPairs_56 (by decide) ?_
          exact hM_21 false _ _ _ (if_neg c_7).symm (lv_sub hl [0, 1, 2] rfl) hP hD hS
        · refine lv_aload_n hx hb dX4_lookAtPairs_34 rfl (lv_at hl 2 rfl) ?_
          refine lv_iload_n hx hb dX4_lookAtPairs_35 rfl (lv_at hl 1 rfl) ?_
          refine lv_iload_n hx hb dX4_lookAtPairs_36 rfl (lv_at hl 0 rfl) ?_
          refine ct_callV (As := [.int (nI i2), .int (nI i12)]) (rest := []) X hP hD hS hA (k_X4_hangTogether l G cI cS cL q beams speeds phases springs strikes ways kickSums s12 gives settings ticks kicks strikeTicks pulls leaders i2 i12 (by omega) (by omega)) cp_X4_hangTogether aw_361 ⟨Nat.le_of_ble_eq_true rfl, Nat.le_of_ble_eq_true rfl⟩ [0] (cs := [stC q cI beams speeds phases springs strikes ways kickSums s12 gives settings ticks kicks strikeTicks pulls leaders]) rfl (by decide) (cs' := [stC q cI beams speeds phases springs strikes ways kickSums s12 gives settings ticks kicks strikeTicks pulls leaders]) rfl rfl 2 rfl rfl (q0 := 0) rfl rfl hl.1 rfl (by decide) dX4_lookAtPairs_37 ⟨Nat.zero_le _, Nat.zero_le _⟩ rfl (bs' := [stC q cI beams speeds phases springs strikes ways kickSums s12 gives settings ticks kicks strikeTicks pulls leaders]) rfl (fun H locs hP hD hS => ?_)
          have hM_18 : ∀ (v_17 : Bool) (ls : Array Slot) (H : Heap) (locs : List Loc), v_17 = (if (f_X4_hangTogether beams i2 i12) = true then (if (f_X4_areNear phases settings i2 i12) = true then true else false) else false) → lv_has ls 4 [(2, .int (nI i12)), (1, .int (nI i2)), (0, .ref (q 0))] → va_P G classes [stC q cI beams speeds phases springs strikes ways kickSums s12 gives settings ticks kicks strikeTicks pulls leaders].flatten H → va_D A [stC q cI beams speeds phases springs strikes ways kickSums s12 gives settings ticks kicks strikeTicks pulls leaders].flatten → va_S A s.heap H locs → W p l e ({ frames := 2, cells := 0, slots := 0, locals := 45 } : Room) s m args below meth c H locs 0 0 QQ (F0 m 57 ls [.int (bI v_17)]) := by
            intro v_17 ls H locs e_v_17 hl hP hD hS
            subst e_v_17
            exact hM_21 (if (f_X4_hangTogether beams i2 i12) = true then (if (f_X4_areNear phases settings i2 i12) = true then true else false) else false) _ _ _ (if_pos c_7).symm (lv_sub hl [0, 1, 2] rfl) hP hD hS
          refine bv_ifeq hx hb (f_X4_hangTogether beams i2 i12) 56 dX4_lookAtPairs_40 (by decide) (fun c_9 => ?_) (fun c_9 => ?_)
          · refine lv_iconst (v := 0) hx hb dX4_lookAtPairs_56 (by decide) ?_
            exact hM_18 false _ _ _ (if_neg c_9).symm (lv_sub hl [0, 1, 2] rfl) hP hD hS
          · refine lv_aload_n hx hb dX4_lookAtPairs_43 rfl (lv_at hl 2 rfl) ?_
            refine lv_iload_n hx hb dX4_lookAtPairs_44 rfl (lv_at hl 1 rfl) ?_
            refine lv_iload_n hx hb dX4_lookAtPairs_45 rfl (lv_at hl 0 rfl) ?_
            refine ct_callV (As := [.int (nI i2), .int (nI i12)]) (rest := []) X hP hD hS hA (k_X4_areNear l G cI cS cL q beams speeds phases springs strikes ways kickSums s12 gives settings ticks kicks strikeTicks pulls leaders i2 i12 (by omega) (by omega)) cp_X4_areNear aw_365 ⟨Nat.le_of_ble_eq_true rfl, Nat.le_of_ble_eq_true rfl⟩ [0] (cs := [stC q cI beams speeds phases springs strikes ways kickSums s12 gives settings ticks kicks strikeTicks pulls leaders]) rfl (by decide) (cs' := [stC q cI beams speeds phases springs strikes ways kickSums s12 gives settings ticks kicks strikeTicks pulls leaders]) rfl rfl 2 rfl rfl (q0 := 0) rfl rfl hl.1 rfl (by decide) dX4_lookAtPairs_46 ⟨Nat.zero_le _, Nat.zero_le _⟩ rfl (bs' := [stC q cI beams speeds phases springs strikes ways kickSums s12 gives settings ticks kicks strikeTicks pulls leaders]) rfl (fun H locs hP hD hS => ?_)
            have hM_15 : ∀ (v_14 : Bool) (ls : Array Slot) (H : Heap) (locs : List Loc), v_14 = (if (f_X4_areNear phases settings i2 i12) = true then true else false) → lv_has ls 4 [(2, .int (nI i12)), (1, .int (nI i2)), (0, .ref (q 0))] → va_P G classes [stC q cI beams speeds phases springs strikes ways kickSums s12 gives settings ticks kicks strikeTicks pulls leaders].flatten H → va_D A [stC q cI beams speeds phases springs strikes ways kickSums s12 gives settings ticks kicks strikeTicks pulls leaders].flatten → va_S A s.heap H locs → W p l e ({ frames := 2, cells := 0, slots := 0, locals := 45 } : Room) s m args below meth c H locs 0 0 QQ (F0 m 57 ls [.int (bI v_14)]) := by
              intro v_14 ls H locs e_v_14 hl hP hD hS
              subst e_v_14
              exact hM_18 (if (f_X4_areNear phases settings i2 i12) = true then true else false) _ _ _ (if_pos c_9).symm (lv_sub hl [0, 1, 2] rfl) hP hD hS
            refine bv_ifeq hx hb (f_X4_areNear phases settings i2 i12) 56 dX4_lookAtPairs_49 (by decide) (fun c_11 => ?_) (fun c_11 => ?_)
            · refine lv_iconst (v := 0) hx hb dX4_lookAtPairs_56 (by decide) ?_
              exact hM_15 false _ _ _ (if_neg c_11).symm (lv_sub hl [0, 1, 2] rfl) hP hD hS
            · refine lv_iconst (v := 1) hx hb dX4_lookAtPairs_52 (by decide) ?_
              refine lv_goto (tgt := 57) hx hb dX4_lookAtPairs_53 (by decide) ?_
              exact hM_15 true _ _ _ (if_pos c_11).symm (lv_sub hl [0, 1, 2] rfl) hP hD hS
    · intro ls H locs hl hP hD hS
      refine lv_iload_n hx hb dX4_lookAtPairs_12 rfl (lv_at hl 0 rfl) ?_
      refine lv_bipush (v := 8) hx hb dX4_lookAtPairs_13 (by decide) ?_
      refine nv_ge hx hb 8 8 91 (by omega) (by omega) dX4_lookAtPairs_15 (by decide) (fun _ => ?_) (fun hc => absurd hc (by omega))
      refine nv_iinc (k := 1) (lv' := [(1, .int (nI (i2 + 1))), (2, .int (nI 8)), (0, .ref (q 0))]) hx hb i2 dX4_lookAtPairs_91 hl rfl (by decide) rfl (fun ls hl => ?_)
      refine lv_goto (tgt := 2) hx hb dX4_lookAtPairs_94 (by decide) ?_
      exact ih _ _ _ (lv_sub hl [0, 2] rfl) hP hD hS
  · intro ls H locs hl hP hD hS
    refine lv_iload_n hx hb dX4_lookAtPairs_2 rfl (lv_at hl 0 rfl) ?_
    refine lv_bipush (v := 8) hx hb dX4_lookAtPairs_3 (by decide) ?_
    refine nv_ge hx hb 8 8 97 (by omega) (by omega) dX4_lookAtPairs_5 (by decide) (fun _ => ?_) (fun hc => absurd hc (by omega))
    rw [← hQQ]; exact W.vret hx hb hr (ct_end (F := (f_X4_lookAtPairs beams phases springs nearTicks settings)) (u := (it (L_X4_lookAtPairs_2 beams phases springs settings) 0 8 nearTicks)) (rf := (fun _ => none)) (wf := (fun u => [stC q cI beams speeds phases springs strikes ways kickSums u gives settings ticks kicks strikeTicks pulls leaders].flatten)) rfl rfl hP hD hS) hS.2.2 dX4_lookAtPairs_97
set_option maxRecDepth 100000 in
set_option maxHeartbeats 4000000 in
theorem k_X4_lockedMask (l : Launch) (G : va_G) (cI cS cL : ClassId) (q : Nat → Nat) (beams : Nat → Int32) (speeds : Nat → Int32) (phases : Nat → Int32) (springs : Nat → Int32) (strikes : Nat → Int32) (ways : Nat → Int32) (kickSums : Nat → Int32) (nearTicks : Nat → Int32) (gives : Nat → Int32) (settings : Nat → Int32) (ticks : Int32) (kicks : Int32) (strikeTicks : Int32) (pulls : Nat → Int32) (leaders : Nat → Int32) (k : Nat) (hk : k < 8) : Ct l G (tyl cI cS cL) yX4_lockedMask cX4_lockedMask 4 (some (Jvm.ClassFile.FieldType.int)) 1 22 0 0 [.ref (q 0), .int (nI k)] [stC q cI beams speeds phases springs strikes ways kickSums nearTicks gives settings ticks kicks strikeTicks pulls leaders].flatten (f_X4_lockedMask nearTicks settings k) (fun u => some (.int u)) (fun _ => [stC q cI beams speeds phases springs strikes ways kickSums nearTicks gives settings ticks kicks strikeTicks pulls leaders].flatten) := by
  refine Ct.of (by decide) (Nat.le_of_ble_eq_true rfl) ?_
  intro p e s m args below meth c A ls hx hb hr hml hw hown hlocks hin hK hN hP hD hS hA hl
  have hown : s.vm.findClass RX4 = some m.cls := hown
  have X : Cx p s m args c cX4_lockedMask 4 RX4 G (tyl cI cS cL) := ⟨hx, hb, hml, hown, hw, hK, hN⟩
  have hP : va_P G classes [stC q cI beams speeds phases springs strikes ways kickSums nearTicks gives settings ticks kicks strikeTicks pulls leaders].flatten s.heap := hP
  have hl : lv_has ls 4 [(0, .ref (q 0)), (1, .int (nI k))] := hl
  generalize hQQ : MQ below _ args s 0 0 A = QQ
  refine lv_iconst (v := 0) hx hb dX4_lockedMask_0 (by decide) ?_
  refine lv_istore_n (lv' := [(2, .int (0 : Int32)), (0, .ref (q 0)), (1, .int (nI k))]) hx hb dX4_lockedMask_1 rfl hl (by decide) rfl (fun ls hl => ?_)
  refine lv_iconst (v := 0) hx hb dX4_lockedMask_2 (by decide) ?_
  refine lv_istore_n (lv' := [(3, .int (0 : Int32)), (2, .int (0 : Int32)), (0, .ref (q 0)), (1, .int (nI k))]) hx hb dX4_lockedMask_3 rfl hl (by decide) rfl (fun ls hl => ?_)
  refine it_loop (f := (L_X4_lockedMask_4 nearTicks settings k)) 8 (fun (i4 : Nat) (s4 : Int32) => ∀ (ls : Array Slot) (H : Heap) (locs : List Loc), lv_has ls 4 [(3, .int (nI i4)), (2, .int s4), (0, .ref (q 0)), (1, .int (nI k))] → va_P G classes [stC q cI beams speeds phases springs strikes ways kickSums nearTicks gives settings ticks kicks strikeTicks pulls leaders].flatten H → va_D A [stC q cI beams speeds phases springs strikes ways kickSums nearTicks gives settings ticks kicks strikeTicks pulls leaders].flatten → va_S A s.heap H locs → W p l e ({ frames := 1, cells := 0, slots := 0, locals := 22 } : Room) s m args below meth c H locs 0 0 QQ (F0 m 4 ls [])) (fun i4 s4 hi4 ih => ?_) 8 0 (0 : Int32) (by omega) ?_ ls _ _ (lv_sub hl [0, 1, 2, 3] rfl) hP hD hS
  · intro ls H locs hl hP hD hS
    refine lv_iload_n hx hb dX4_lockedMask_4 rfl (lv_at hl 0 rfl) ?_
    refine lv_bipush (v := 8) hx hb dX4_lockedMask_5 (by decide) ?_
    refine nv_ge hx hb i4 8 36 (by omega) (by omega) dX4_lockedMask_7 (by decide) (fun hc => absurd hc (by omega)) (fun _ => ?_)
    refine lv_iload_n hx hb dX4_lockedMask_10 rfl (lv_at hl 0 rfl) ?_
    refine lv_iload_n hx hb dX4_lockedMask_11 rfl (lv_at hl 3 rfl) ?_
    have hM_12 : ∀ (v_11 : Int32) (ls : Array Slot) (H : Heap) (locs : List Loc), v_11 = (if i4 = k then s4 else (if (f_X4_areLocked nearTicks settings k i4) = true then (s4 ||| ((1 : Int32) <<< ((nI i4) &&& 31))) else s4)) → lv_has ls 4 [(3, .int (nI i4)), (2, .int v_11), (0, .ref (q 0)), (1, .int (nI k))] → va_P G classes [stC q cI beams speeds phases springs strikes ways kickSums nearTicks gives settings ticks kicks strikeTicks pulls leaders].flatten H → va_D A [stC q cI beams speeds phases springs strikes ways kickSums nearTicks gives settings ticks kicks strikeTicks pulls leaders].flatten → va_S A s.heap H locs → W p l e ({ frames := 1, cells := 0, slots := 0, locals := 22 } : Room) s m args below meth c H locs 0 0 QQ (F0 m 30 ls []) := by
      intro v_11 ls H locs e_v_11 hl hP hD hS
      subst e_v_11
      refine nv_iinc (k := 0) (lv' := [(3, .int (nI (i4 + 1))), (2, .int (if i4 = k then s4 else (if (f_X4_areLocked nearTicks settings k i4) = true then (s4 ||| ((1 : Int32) <<< ((nI i4) &&& 31))) else s4))), (0, .ref (q 0)), (1, .int (nI k))]) hx hb i4 dX4_lockedMask_30 hl rfl (by decide) rfl (fun ls hl => ?_)
      refine lv_goto (tgt := 4) hx hb dX4_lockedMask_33 (by decide) ?_
      exact ih _ _ _ (lv_sub hl [0, 1, 2, 3] rfl) hP hD hS
    refine nv_eq hx hb i4 k 30 (by omega) (by omega) dX4_lockedMask_12 (by decide) (fun c_3 => ?_) (fun c_3 => ?_)
    · exact hM_12 s4 _ _ _ (if_pos c_3).symm (lv_sub hl [0, 1, 2, 3] rfl) hP hD hS
    · refine lv_aload_n hx hb dX4_lockedMask_15 rfl (lv_at hl 2 rfl) ?_
      refine lv_iload_n hx hb dX4_lockedMask_16 rfl (lv_at hl 3 rfl) ?_
      refine lv_iload_n hx hb dX4_lockedMask_17 rfl (lv_at hl 0 rfl) ?_
      refine ct_callV (As := [.int (nI k), .int (nI i4)]) (rest := []) X hP hD hS hA (k_X4_areLocked l G cI cS cL q beams speeds phases springs strikes ways kickSums nearTicks gives settings ticks kicks strikeTicks pulls leaders k i4 (by omega) (by omega)) cp_X4_areLocked aw_395 ⟨Nat.le_of_ble_eq_true rfl, Nat.le_of_ble_eq_true rfl⟩ [0] (cs := [stC q cI beams speeds phases springs strikes ways kickSums nearTicks gives settings ticks kicks strikeTicks pulls leaders]) rfl (by decide) (cs' := [stC q cI beams speeds phases springs strikes ways kickSums nearTicks gives settings ticks kicks strikeTicks pulls leaders]) rfl rfl 2 rfl rfl (q0 := 0) rfl rfl hl.1 rfl (by decide) dX4_lockedMask_18 ⟨Nat.zero_le _, Nat.zero_le _⟩ rfl (bs' := [stC q cI beams speeds phases springs strikes ways kickSums nearTicks gives settings ticks kicks strikeTicks pulls leaders]) rfl (fun H locs hP hD hS => ?_)
      have hM_9 : ∀ (v_8 : Int32) (ls : Array Slot) (H : Heap) (locs : List Loc), v_8 = (if (f_X4_areLocked nearTicks settings k i4) = true then (s4 ||| ((1 : Int32) <<< ((nI i4) &&& 31))) else s4) → lv_has ls 4 [(2, .int v_8), (3, .int (nI i4)), (0, .ref (q 0)), (1, .int (nI k))] → va_P G classes [stC q cI beams speeds phases springs strikes ways kickSums nearTicks gives settings ticks kicks strikeTicks pulls leaders].flatten H → va_D A [stC q cI beams speeds phases springs strikes ways kickSums nearTicks gives settings ticks kicks strikeTicks pulls leaders].flatten → va_S A s.heap H locs → W p l e ({ frames := 1, cells := 0, slots := 0, locals := 22 } : Room) s m args below meth c H locs 0 0 QQ (F0 m 30 ls []) := by
        intro v_8 ls H locs e_v_8 hl hP hD hS
        subst e_v_8
        exact hM_12 (if (f_X4_areLocked nearTicks settings k i4) = true then (s4 ||| ((1 : Int32) <<< ((nI i4) &&& 31))) else s4) _ _ _ (if_neg c_3).symm (lv_sub hl [1, 0, 2, 3] rfl) hP hD hS
      refine bv_ifeq hx hb (f_X4_areLocked nearTicks settings k i4) 30 dX4_lockedMask_21 (by decide) (fun c_5 => ?_) (fun c_5 => ?_)
      · exact hM_9 s4 _ _ _ (if_neg c_5).symm (lv_sub hl [1, 0, 2, 3] rfl) hP hD hS
      · refine lv_iload_n hx hb dX4_lockedMask_24 rfl (lv_at hl 1 rfl) ?_
        refine lv_iconst (v := 1) hx hb dX4_lockedMask_25 (by decide) ?_
        refine lv_iload_n hx hb dX4_lockedMask_26 rfl (lv_at hl 0 rfl) ?_
        refine lv_ishl hx hb dX4_lockedMask_27 ?_
        refine lv_ior hx hb dX4_lockedMask_28 ?_
        refine lv_istore_n (lv' := [(2, .int (s4 ||| ((1 : Int32) <<< ((nI i4) &&& 31)))), (3, .int (nI i4)), (0, .ref (q 0)), (1, .int (nI k))]) hx hb dX4_lockedMask_29 rfl hl (by decide) rfl (fun ls hl => ?_)
        exact hM_9 (s4 ||| ((1 : Int32) <<< ((nI i4) &&& 31))) _ _ _ (if_pos c_5).symm (lv_sub hl [0, 1, 2, 3] rfl) hP hD hS
  · intro ls H locs hl hP hD hS
    refine lv_iload_n hx hb dX4_lockedMask_4 rfl (lv_at hl 0 rfl) ?_
    refine lv_bipush (v := 8) hx hb dX4_lockedMask_5 (by decide) ?_
    refine nv_ge hx hb 8 8 36 (by omega) (by omega) dX4_lockedMask_7 (by decide) (fun _ => ?_) (fun hc => absurd hc (by omega))
    refine lv_iload_n hx hb dX4_lockedMask_36 rfl (lv_at hl 1 rfl) ?_
    rw [← hQQ]; exact W.iret hx hb hr (ct_end (F := (f_X4_lockedMask nearTicks settings k)) (u := (it (L_X4_lockedMask_4 nearTicks settings k) 0 8 (0 : Int32))) (rf := (fun u => some (.int u))) (wf := (fun _ => [stC q cI beams speeds phases springs strikes ways kickSums nearTicks gives settings ticks kicks strikeTicks pulls leaders].flatten)) rfl rfl hP hD hS) hS.2.2 dX4_lockedMask_37
