set_option maxRecDepth 100000 in
set_option maxHeartbeats 4000000 in
theorem k_X6_in (l : Launch) (G : va_G) (cI cS cL : ClassId) (v : Int64) (lo_ : Int64) (hi_ : Int64) : Ct l G (tyl cI cS cL) yX6_in cX6_in 6 (some (Jvm.ClassFile.FieldType.boolean)) 0 0 0 0 [.long v, .long lo_, .long hi_] [].flatten (f_X6_in v lo_ hi_) (fun u => some (.int (bI u))) (fun _ => [].flatten) := by
  refine Ct.of (by decide +kernel) (Nat.le_of_ble_eq_true rfl) ?_
  intro p e s m args below meth c A ls hx hb hr hml hw hown hlocks hin hK hN hP hD hS hA hl
  have hown : s.vm.findClass RX6 = some m.cls := hown
  have X : Cx p s m args c cX6_in 6 RX6 G (tyl cI cS cL) := ⟨hx, hb, hml, hown, hw, hK, hN⟩
  have hP : va_P G classes [].flatten s.heap := hP
  have hl : lv_has ls 6 [(0, .long v), (2, .long lo_), (4, .long hi_)] := hl
  generalize hQQ : MQ below _ args s 0 0 A = QQ
  refine lv_lload_n hx hb dX6_in_0 rfl (lv_at hl 0 rfl) ?_
  refine lv_lload_n hx hb dX6_in_1 rfl (lv_at hl 1 rfl) ?_
  refine W.lcmp hx hb dX6_in_2 ?_
  have hM_10 : ∀ (v_9 : Bool) (ls : Array Slot) (H : Heap) (locs : List Loc), v_9 = (if (lg_cmp v lo_) < 0 then false else (if 0 < (lg_cmp v hi_) then false else true)) → lv_has ls 6 [] → va_P G classes [].flatten H → va_D A [].flatten → va_S A s.heap H locs → W p l e ({ frames := 0, cells := 0, slots := 0, locals := 0 } : Room) s m args below meth c H locs 0 0 QQ (F0 m 18 ls [.int (bI v_9)]) := by
    intro v_9 ls H locs e_v_9 hl hP hD hS
    subst e_v_9
    rw [← hQQ]; exact W.zret (v := bI (if (lg_cmp v lo_) < 0 then false else (if 0 < (lg_cmp v hi_) then false else true))) hx hb hr (nar_b _) (ct_end (F := (f_X6_in v lo_ hi_)) (u := (if (lg_cmp v lo_) < 0 then false else (if 0 < (lg_cmp v hi_) then false else true))) (rf := (fun u => some (.int (bI u)))) (wf := (fun _ => [].flatten)) rfl rfl hP hD hS) hS.2.2 dX6_in_18
  refine lv_if_lt (tgt := 17) hx hb dX6_in_3 (by decide) (fun c_1 => ?_) (fun c_1 => ?_)
  · refine lv_iconst (v := 0) hx hb dX6_in_17 (by decide) ?_
    exact hM_10 false _ _ _ (if_pos c_1).symm (lv_sub hl [] rfl) hP hD hS
  · refine lv_lload_n hx hb dX6_in_6 rfl (lv_at hl 0 rfl) ?_
    refine lv_lload hx hb dX6_in_7 (lv_at hl 2 rfl) ?_
    refine W.lcmp hx hb dX6_in_9 ?_
    have hM_7 : ∀ (v_6 : Bool) (ls : Array Slot) (H : Heap) (locs : List Loc), v_6 = (if 0 < (lg_cmp v hi_) then false else true) → lv_has ls 6 [] → va_P G classes [].flatten H → va_D A [].flatten → va_S A s.heap H locs → W p l e ({ frames := 0, cells := 0, slots := 0, locals := 0 } : Room) s m args below meth c H locs 0 0 QQ (F0 m 18 ls [.int (bI v_6)]) := by
      intro v_6 ls H locs e_v_6 hl hP hD hS
      subst e_v_6
      exact hM_10 (if 0 < (lg_cmp v hi_) then false else true) _ _ _ (if_neg c_1).symm (lv_sub hl [] rfl) hP hD hS
    refine lv_if_gt (tgt := 17) hx hb dX6_in_10 (by decide) (fun c_3 => ?_) (fun c_3 => ?_)
    · refine lv_iconst (v := 0) hx hb dX6_in_17 (by decide) ?_
      exact hM_7 false _ _ _ (if_pos c_3).symm (lv_sub hl [] rfl) hP hD hS
    · refine lv_iconst (v := 1) hx hb dX6_in_13 (by decide) ?_
      refine lv_goto (tgt := 18) hx hb dX6_in_14 (by decide) ?_
      exact hM_7 true _ _ _ (if_neg c_3).symm (lv_sub hl [] rfl) hP hD hS
set_option maxRecDepth 100000 in
set_option maxHeartbeats 4000000 in
theorem k0_X6_copy (l : Launch) (G : va_G) (cI cS cL : ClassId) (a : Nat) (b : Nat) (row : Nat → Int32) (row2 : Nat → Int32) : Ct l G (tyl cI cS cL) yX6_copy cX6_copy 3 none 0 0 0 0 [.ref a, .ref b] [rwC a cI 129 row, rwC b cI 129 row2].flatten (f_X6_copy row row2) (fun _ => none) (fun u => [rwC a cI 129 row, rwC b cI 129 u].flatten) := by
  refine Ct.of (by decide +kernel) (Nat.le_of_ble_eq_true rfl) ?_
  intro p e s m args below meth c A ls hx hb hr hml hw hown hlocks hin hK hN hP hD hS hA hl
  have hown : s.vm.findClass RX6 = some m.cls := hown
  have X : Cx p s m args c cX6_copy 3 RX6 G (tyl cI cS cL) := ⟨hx, hb, hml, hown, hw, hK, hN⟩
  have hP : va_P G classes [rwC a cI 129 row, rwC b cI 129 row2].flatten s.heap := hP
  have hl : lv_has ls 3 [(0, .ref a), (1, .ref b)] := hl
  generalize hQQ : MQ below _ args s 0 0 A = QQ
  refine lv_iconst (v := 0) hx hb dX6_copy_0 (by decide) ?_
  refine lv_istore_n (lv' := [(2, .int (0 : Int32)), (0, .ref a), (1, .ref b)]) hx hb dX6_copy_1 rfl hl (by decide) rfl (fun ls hl => ?_)
  refine it_loop (f := (L_X6_copy_2 row)) 129 (fun (i2 : Nat) (s2 : (Nat → Int32)) => ∀ (ls : Array Slot) (H : Heap) (locs : List Loc), lv_has ls 3 [(2, .int (nI i2)), (0, .ref a), (1, .ref b)] → va_P G classes [rwC a cI 129 row, rwC b cI 129 s2].flatten H → va_D A [rwC a cI 129 row, rwC b cI 129 s2].flatten → va_S A s.heap H locs → W p l e ({ frames := 0, cells := 0, slots := 0, locals := 0 } : Room) s m args below meth c H locs 0 0 QQ (F0 m 2 ls [])) (fun i2 s2 hi2 ih => ?_) 129 0 row2 (by omega) ?_ ls _ _ (lv_sub hl [0, 1, 2] rfl) hP hD hS
  · intro ls H locs hl hP hD hS
    refine lv_iload_n hx hb dX6_copy_2 rfl (lv_at hl 0 rfl) ?_
    refine lv_sipush (v := 129) hx hb dX6_copy_3 (by decide) ?_
    refine nv_ge hx hb i2 129 21 (by omega) (by omega) dX6_copy_6 (by decide) (fun hc => absurd hc (by omega)) (fun _ => ?_)
    refine lv_aload_n hx hb dX6_copy_9 rfl (lv_at hl 2 rfl) ?_
    refine lv_iload_n hx hb dX6_copy_10 rfl (lv_at hl 0 rfl) ?_
    refine lv_aload_n hx hb dX6_copy_11 rfl (lv_at hl 1 rfl) ?_
    refine lv_iload_n hx hb dX6_copy_12 rfl (lv_at hl 0 rfl) ?_
    refine nv_iald hx hb hK hP 0 0 rfl rfl i2 (by omega) (by decide) dX6_copy_13 ?_
    refine nv_iast hx hb hK hP hD hS 1 0 rfl rfl i2 (by omega) (by decide) dX6_copy_14 (ws' := [rwC a cI 129 row, rwC b cI 129 (upd s2 i2 (row i2))].flatten) rfl (fun H locs hP hD hS => ?_)
    refine nv_iinc (k := 0) (lv' := [(2, .int (nI (i2 + 1))), (0, .ref a), (1, .ref b)]) hx hb i2 dX6_copy_15 hl rfl (by decide) rfl (fun ls hl => ?_)
    refine lv_goto (tgt := 2) hx hb dX6_copy_18 (by decide) ?_
    exact ih _ _ _ (lv_sub hl [0, 1, 2] rfl) hP hD hS
  · intro ls H locs hl hP hD hS
    refine lv_iload_n hx hb dX6_copy_2 rfl (lv_at hl 0 rfl) ?_
    refine lv_sipush (v := 129) hx hb dX6_copy_3 (by decide) ?_
    refine nv_ge hx hb 129 129 21 (by omega) (by omega) dX6_copy_6 (by decide) (fun _ => ?_) (fun hc => absurd hc (by omega))
    rw [← hQQ]; exact W.vret hx hb hr (ct_end (F := (f_X6_copy row row2)) (u := (it (L_X6_copy_2 row) 0 129 row2)) (rf := (fun _ => none)) (wf := (fun u => [rwC a cI 129 row, rwC b cI 129 u].flatten)) rfl rfl hP hD hS) hS.2.2 dX6_copy_21
theorem k_X6_copy (l : Launch) (G : va_G) (cI cS cL : ClassId) (a : Nat) (b : Nat) (row : Nat → Int32) (row2 : Nat → Int32) : Ct l G (tyl cI cS cL) yX6_copy cX6_copy 3 none 0 0 0 0 [.ref a, .ref b] [rwC a cI 129 row, rwC b cI 129 row2].flatten () (fun _ => none) (fun _ => [rwC a cI 129 row, rwC b cI 129 row].flatten) :=
  (k0_X6_copy l G cI cS cL a b row row2).conv rfl (fun H h => va_P_re (ws := [rwC a cI 129 row, rwC b cI 129 row2].flatten) (f := f_X6_copy row row2) 1 (fun j hj => it_copy row row2 hj) h) (fun A h => va_D.set (p := 1) (a := b) h rfl)
set_option maxRecDepth 100000 in
set_option maxHeartbeats 4000000 in
theorem k_X6_isClock (l : Launch) (G : va_G) (cI cS cL : ClassId) (k : Int32) : Ct l G (tyl cI cS cL) yX6_isClock cX6_isClock 1 (some (Jvm.ClassFile.FieldType.boolean)) 1 25 0 0 [.int k] [].flatten (f_X6_isClock k) (fun u => some (.int (bI u))) (fun _ => [].flatten) := by
  refine Ct.of (by decide +kernel) (Nat.le_of_ble_eq_true rfl) ?_
  intro p e s m args below meth c A ls hx hb hr hml hw hown hlocks hin hK hN hP hD hS hA hl
  have hown : s.vm.findClass RX6 = some m.cls := hown
  have X : Cx p s m args c cX6_isClock 1 RX6 G (tyl cI cS cL) := ⟨hx, hb, hml, hown, hw, hK, hN⟩
  have hP : va_P G classes [].flatten s.heap := hP
  have hl : lv_has ls 1 [(0, .int k)] := hl
  generalize hQQ : MQ below _ args s 0 0 A = QQ
  refine lv_iload_n hx hb dX6_isClock_0 rfl (lv_at hl 0 rfl) ?_
  refine lv_i2l hx hb dX6_isClock_1 rfl ?_
  refine lv_lconst (v := 0) hx hb dX6_isClock_2 (by decide) ?_
  refine lv_ldc2 hx hb hown (hw _ aw_976) dX6_isClock_3 ?_
  refine ct_callS (As := [.long k.toInt64, .long (0 : Int64), .long (7 : Int64)]) (rest := []) X hP hD hS hA (k_X6_in l G cI cS cL  k.toInt64 (0 : Int64) (7 : Int64)) cq_X6_in aw_926 ⟨Nat.le_of_ble_eq_true rfl, Nat.le_of_ble_eq_true rfl⟩ ([] : List Nat) (cs := []) rfl (by decide) (cs' := []) rfl rfl rfl hl.1 rfl (Nat.le_of_ble_eq_true rfl) dX6_isClock_6 ⟨Nat.zero_le _, Nat.zero_le _⟩ rfl (bs' := []) rfl (fun H locs hP hD hS => ?_)
  rw [← hQQ]; exact W.zret (v := bI (f_X6_in k.toInt64 (0 : Int64) (7 : Int64))) hx hb hr (nar_b _) (ct_end (F := (f_X6_isClock k)) (u := (f_X6_in k.toInt64 (0 : Int64) (7 : Int64))) (rf := (fun u => some (.int (bI u)))) (wf := (fun _ => [].flatten)) rfl rfl hP hD hS) hS.2.2 dX6_isClock_9
set_option maxRecDepth 100000 in
set_option maxHeartbeats 4000000 in
theorem k_X6_isBeam (l : Launch) (G : va_G) (cI cS cL : ClassId) (b : Int32) : Ct l G (tyl cI cS cL) yX6_isBeam cX6_isBeam 1 (some (Jvm.ClassFile.FieldType.boolean)) 1 25 0 0 [.int b] [].flatten (f_X6_isBeam b) (fun u => some (.int (bI u))) (fun _ => [].flatten) := by
  refine Ct.of (by decide +kernel) (Nat.le_of_ble_eq_true rfl) ?_
  intro p e s m args below meth c A ls hx hb hr hml hw hown hlocks hin hK hN hP hD hS hA hl
  have hown : s.vm.findClass RX6 = some m.cls := hown
  have X : Cx p s m args c cX6_isBeam 1 RX6 G (tyl cI cS cL) := ⟨hx, hb, hml, hown, hw, hK, hN⟩
  have hP : va_P G classes [].flatten s.heap := hP
  have hl : lv_has ls 1 [(0, .int b)] := hl
  generalize hQQ : MQ below _ args s 0 0 A = QQ
  refine lv_iload_n hx hb dX6_isBeam_0 rfl (lv_at hl 0 rfl) ?_
  refine lv_i2l hx hb dX6_isBeam_1 rfl ?_
  refine lv_lconst (v := 0) hx hb dX6_isBeam_2 (by decide) ?_
  refine lv_ldc2 hx hb hown (hw _ aw_990) dX6_isBeam_3 ?_
  refine ct_callS (As := [.long b.toInt64, .long (0 : Int64), .long (2 : Int64)]) (rest := []) X hP hD hS hA (k_X6_in l G cI cS cL  b.toInt64 (0 : Int64) (2 : Int64)) cq_X6_in aw_926 ⟨Nat.le_of_ble_eq_true rfl, Nat.le_of_ble_eq_true rfl⟩ ([] : List Nat) (cs := []) rfl (by decide) (cs' := []) rfl rfl rfl hl.1 rfl (Nat.le_of_ble_eq_true rfl) dX6_isBeam_6 ⟨Nat.zero_le _, Nat.zero_le _⟩ rfl (bs' := []) rfl (fun H locs hP hD hS => ?_)
  rw [← hQQ]; exact W.zret (v := bI (f_X6_in b.toInt64 (0 : Int64) (2 : Int64))) hx hb hr (nar_b _) (ct_end (F := (f_X6_isBeam b)) (u := (f_X6_in b.toInt64 (0 : Int64) (2 : Int64))) (rf := (fun u => some (.int (bI u)))) (wf := (fun _ => [].flatten)) rfl rfl hP hD hS) hS.2.2 dX6_isBeam_9
set_option maxRecDepth 100000 in
set_option maxHeartbeats 4000000 in
theorem k_X6_isSet (l : Launch) (G : va_G) (cI cS cL : ClassId) (k : Int32) (v : Int32) : Ct l G (tyl cI cS cL) yX6_isSet cX6_isSet 2 (some (Jvm.ClassFile.FieldType.boolean)) 1 25 0 0 [.int k, .int v] [].flatten (f_X6_isSet k v) (fun u => some (.int (bI u))) (fun _ => [].flatten) := by
  refine Ct.of (by decide +kernel) (Nat.le_of_ble_eq_true rfl) ?_
  intro p e s m args below meth c A ls hx hb hr hml hw hown hlocks hin hK hN hP hD hS hA hl
  have hown : s.vm.findClass RX6 = some m.cls := hown
  have X : Cx p s m args c cX6_isSet 2 RX6 G (tyl cI cS cL) := ⟨hx, hb, hml, hown, hw, hK, hN⟩
  have hP : va_P G classes [].flatten s.heap := hP
  have hl : lv_has ls 2 [(0, .int k), (1, .int v)] := hl
  generalize hQQ : MQ below _ args s 0 0 A = QQ
  refine lv_iload_n hx hb dX6_isSet_0 rfl (lv_at hl 0 rfl) ?_
  have hM_10 : ∀ (v_9 : Bool) (ls : Array Slot) (H : Heap) (locs : List Loc), v_9 = (if k = 0 then (f_X6_in v.toInt64 (0 : Int64) (50 : Int64)) else (if k = (1 : Int32) then (f_X6_in v.toInt64 (0 : Int64) (200 : Int64)) else (f_X6_in v.toInt64 (1 : Int64) (50 : Int64)))) → lv_has ls 2 [] → va_P G classes [].flatten H → va_D A [].flatten → va_S A s.heap H locs → W p l e ({ frames := 1, cells := 0, slots := 0, locals := 25 } : Room) s m args below meth c H locs 0 0 QQ (F0 m 42 ls [.int (bI v_9)]) := by
    intro v_9 ls H locs e_v_9 hl hP hD hS
    subst e_v_9
    rw [← hQQ]; exact W.zret (v := bI (if k = 0 then (f_X6_in v.toInt64 (0 : Int64) (50 : Int64)) else (if k = (1 : Int32) then (f_X6_in v.toInt64 (0 : Int64) (200 : Int64)) else (f_X6_in v.toInt64 (1 : Int64) (50 : Int64))))) hx hb hr (nar_b _) (ct_end (F := (f_X6_isSet k v)) (u := (if k = 0 then (f_X6_in v.toInt64 (0 : Int64) (50 : Int64)) else (if k = (1 : Int32) then (f_X6_in v.toInt64 (0 : Int64) (200 : Int64)) else (f_X6_in v.toInt64 (1 : Int64) (50 : Int64))))) (rf := (fun u => some (.int (bI u)))) (wf := (fun _ => [].flatten)) rfl rfl hP hD hS) hS.2.2 dX6_isSet_42
  refine iv_ifne hx hb 16 dX6_isSet_1 (by decide) (fun c_1 => ?_) (fun c_1 => ?_)
  · refine lv_iload_n hx hb dX6_isSet_16 rfl (lv_at hl 0 rfl) ?_
    refine lv_iconst (v := 1) hx hb dX6_isSet_17 (by decide) ?_
    have hM_6 : ∀ (v_5 : Bool) (ls : Array Slot) (H : Heap) (locs : List Loc), v_5 = (if k = (1 : Int32) then (f_X6_in v.toInt64 (0 : Int64) (200 : Int64)) else (f_X6_in v.toInt64 (1 : Int64) (50 : Int64))) → lv_has ls 2 [] → va_P G classes [].flatten H → va_D A [].flatten → va_S A s.heap H locs → W p l e ({ frames := 1, cells := 0, slots := 0, locals := 25 } : Room) s m args below meth c H locs 0 0 QQ (F0 m 42 ls [.int (bI v_5)]) := by
      intro v_5 ls H locs e_v_5 hl hP hD hS
      subst e_v_5
      exact hM_10 (if k = (1 : Int32) then (f_X6_in v.toInt64 (0 : Int64) (200 : Int64)) else (f_X6_in v.toInt64 (1 : Int64) (50 : Int64))) _ _ _ (if_neg c_1).symm (lv_sub hl [] rfl) hP hD hS
    refine iv_ne hx hb 33 dX6_isSet_18 (by decide) (fun c_2 => ?_) (fun c_2 => ?_)
    · refine lv_iload_n hx hb dX6_isSet_33 rfl (lv_at hl 1 rfl) ?_
      refine lv_i2l hx hb dX6_isSet_34 rfl ?_
      refine lv_lconst (v := 1) hx hb dX6_isSet_35 (by decide) ?_
      refine lv_ldc2 hx hb hown (hw _ aw_1025) dX6_isSet_36 ?_
      refine ct_callS (As := [.long v.toInt64, .long (1 : Int64), .long (50 : Int64)]) (rest := []) X hP hD hS hA (k_X6_in l G cI cS cL  v.toInt64 (1 : Int64) (50 : Int64)) cq_X6_in aw_926 ⟨Nat.le_of_ble_eq_true rfl, Nat.le_of_ble_eq_true rfl⟩ ([] : List Nat) (cs := []) rfl (by decide) (cs' := []) rfl rfl rfl hl.1 rfl (Nat.le_of_ble_eq_true rfl) dX6_isSet_39 ⟨Nat.zero_le _, Nat.zero_le _⟩ rfl (bs' := []) rfl (fun H locs hP hD hS => ?_)
      exact hM_6 (f_X6_in v.toInt64 (1 : Int64) (50 : Int64)) _ _ _ (if_neg c_2).symm (lv_sub hl [] rfl) hP hD hS
    · refine lv_iload_n hx hb dX6_isSet_21 rfl (lv_at hl 1 rfl) ?_
      refine lv_i2l hx hb dX6_isSet_22 rfl ?_
      refine lv_lconst (v := 0) hx hb dX6_isSet_23 (by decide) ?_
      refine lv_ldc2 hx hb hown (hw _ aw_925) dX6_isSet_24 ?_
      refine ct_callS (As := [.long v.toInt64, .long (0 : Int64), .long (200 : Int64)]) (rest := []) X hP hD hS hA (k_X6_in l G cI cS cL  v.toInt64 (0 : Int64) (200 : Int64)) cq_X6_in aw_926 ⟨Nat.le_of_ble_eq_true rfl, Nat.le_of_ble_eq_true rfl⟩ ([] : List Nat) (cs := []) rfl (by decide) (cs' := []) rfl rfl rfl hl.1 rfl (Nat.le_of_ble_eq_true rfl) dX6_isSet_27 ⟨Nat.zero_le _, Nat.zero_le _⟩ rfl (bs' := []) rfl (fun H locs hP hD hS => ?_)
      refine lv_goto (tgt := 42) hx hb dX6_isSet_30 (by decide) ?_
      exact hM_6 (f_X6_in v.toInt64 (0 : Int64) (200 : Int64)) _ _ _ (if_pos c_2).symm (lv_sub hl [] rfl) hP hD hS
  · refine lv_iload_n hx hb dX6_isSet_4 rfl (lv_at hl 1 rfl) ?_
    refine lv_i2l hx hb dX6_isSet_5 rfl ?_
    refine lv_lconst (v := 0) hx hb dX6_isSet_6 (by decide) ?_
    refine lv_ldc2 hx hb hown (hw _ aw_1025) dX6_isSet_7 ?_
    refine ct_callS (As := [.long v.toInt64, .long (0 : Int64), .long (50 : Int64)]) (rest := []) X hP hD hS hA (k_X6_in l G cI cS cL  v.toInt64 (0 : Int64) (50 : Int64)) cq_X6_in aw_926 ⟨Nat.le_of_ble_eq_true rfl, Nat.le_of_ble_eq_true rfl⟩ ([] : List Nat) (cs := []) rfl (by decide) (cs' := []) rfl rfl rfl hl.1 rfl (Nat.le_of_ble_eq_true rfl) dX6_isSet_10 ⟨Nat.zero_le _, Nat.zero_le _⟩ rfl (bs' := []) rfl (fun H locs hP hD hS => ?_)
    refine lv_goto (tgt := 42) hx hb dX6_isSet_13 (by decide) ?_
    exact hM_10 (f_X6_in v.toInt64 (0 : Int64) (50 : Int64)) _ _ _ (if_pos c_1).symm (lv_sub hl [] rfl) hP hD hS
set_option maxRecDepth 100000 in
set_option maxHeartbeats 4000000 in
theorem k_X6_spot (l : Launch) (G : va_G) (cI cS cL : ClassId) (k : Nat) : Ct l G (tyl cI cS cL) yX6_spot cX6_spot 1 (some (Jvm.ClassFile.FieldType.int)) 0 0 0 0 [.int (nI k)] [].flatten (f_X6_spot k) (fun u => some (.int (nI u))) (fun _ => [].flatten) := by
  refine Ct.of (by decide +kernel) (Nat.le_of_ble_eq_true rfl) ?_
  intro p e s m args below meth c A ls hx hb hr hml hw hown hlocks hin hK hN hP hD hS hA hl
  have hown : s.vm.findClass RX6 = some m.cls := hown
  have X : Cx p s m args c cX6_spot 1 RX6 G (tyl cI cS cL) := ⟨hx, hb, hml, hown, hw, hK, hN⟩
  have hP : va_P G classes [].flatten s.heap := hP
  have hl : lv_has ls 1 [(0, .int (nI k))] := hl
  generalize hQQ : MQ below _ args s 0 0 A = QQ
  refine lv_bipush (v := 6) hx hb dX6_spot_0 (by decide) ?_
  refine lv_bipush (v := 7) hx hb dX6_spot_2 (by decide) ?_
  refine lv_iload_n hx hb dX6_spot_4 rfl (lv_at hl 0 rfl) ?_
  refine nv_imul hx hb 7 k dX6_spot_5 ?_
  refine nv_iadd hx hb 6 (7 * k) dX6_spot_6 ?_
  rw [← hQQ]; exact W.iret hx hb hr (ct_end (F := (f_X6_spot k)) (u := (6 + (7 * k))) (rf := (fun u => some (.int (nI u)))) (wf := (fun _ => [].flatten)) rfl rfl hP hD hS) hS.2.2 dX6_spot_7
set_option maxRecDepth 100000 in
set_option maxHeartbeats 4000000 in
theorem k_X6_goes (l : Launch) (G : va_G) (cI cS cL : ClassId) (a : Nat) (row : Nat → Int32) (k : Nat) (hk : k < 8) : Ct l G (tyl cI cS cL) yX6_goes cX6_goes 2 (some (Jvm.ClassFile.FieldType.boolean)) 1 20 0 0 [.ref a, .int (nI k)] [rwC a cI 129 row].flatten (f_X6_goes row k) (fun u => some (.int (bI u))) (fun _ => [rwC a cI 129 row].flatten) := by
  refine Ct.of (by decide +kernel) (Nat.le_of_ble_eq_true rfl) ?_
  intro p e s m args below meth c A ls hx hb hr hml hw hown hlocks hin hK hN hP hD hS hA hl
  have hown : s.vm.findClass RX6 = some m.cls := hown
  have X : Cx p s m args c cX6_goes 2 RX6 G (tyl cI cS cL) := ⟨hx, hb, hml, hown, hw, hK, hN⟩
  have hP : va_P G classes [rwC a cI 129 row].flatten s.heap := hP
  have hl : lv_has ls 2 [(0, .ref a), (1, .int (nI k))] := hl
  generalize hQQ : MQ below _ args s 0 0 A = QQ
  refine lv_aload_n hx hb dX6_goes_0 rfl (lv_at hl 0 rfl) ?_
  refine lv_iload_n hx hb dX6_goes_1 rfl (lv_at hl 1 rfl) ?_
  refine ct_callS (As := [.int (nI k)]) (rest := [.ref a]) X hP hD hS hA (k_X6_spot l G cI cS cL  k) cq_X6_spot aw_951 ⟨Nat.le_of_ble_eq_true rfl, Nat.le_of_ble_eq_true rfl⟩ ([] : List Nat) (cs := []) rfl (by decide) (cs' := []) rfl rfl rfl hl.1 rfl (Nat.le_of_ble_eq_true rfl) dX6_goes_2 ⟨Nat.zero_le _, Nat.zero_le _⟩ rfl (bs' := [rwC a cI 129 row]) rfl (fun H locs hP hD hS => ?_)
  refine lv_iconst (v := 3) hx hb dX6_goes_5 (by decide) ?_
  refine nv_iadd hx hb (6 + (7 * k)) 3 dX6_goes_6 ?_
  refine nv_iald hx hb hK hP 0 0 rfl rfl ((6 + (7 * k)) + 3) (by omega) (by decide) dX6_goes_7 ?_
  have hM_5 : ∀ (v_4 : Bool) (ls : Array Slot) (H : Heap) (locs : List Loc), v_4 = (if (row ((6 + (7 * k)) + 3)) ≤ 0 then false else true) → lv_has ls 2 [] → va_P G classes [rwC a cI 129 row].flatten H → va_D A [rwC a cI 129 row].flatten → va_S A s.heap H locs → W p l e ({ frames := 1, cells := 0, slots := 0, locals := 20 } : Room) s m args below meth c H locs 0 0 QQ (F0 m 16 ls [.int (bI v_4)]) := by
    intro v_4 ls H locs e_v_4 hl hP hD hS
    subst e_v_4
    rw [← hQQ]; exact W.zret (v := bI (if (row ((6 + (7 * k)) + 3)) ≤ 0 then false else true)) hx hb hr (nar_b _) (ct_end (F := (f_X6_goes row k)) (u := (if (row ((6 + (7 * k)) + 3)) ≤ 0 then false else true)) (rf := (fun u => some (.int (bI u)))) (wf := (fun _ => [rwC a cI 129 row].flatten)) rfl rfl hP hD hS) hS.2.2 dX6_goes_16
  refine lv_if_le (tgt := 15) hx hb dX6_goes_8 (by decide) (fun c_1 => ?_) (fun c_1 => ?_)
  · refine lv_iconst (v := 0) hx hb dX6_goes_15 (by decide) ?_
    exact hM_5 false _ _ _ (if_pos c_1).symm (lv_sub hl [] rfl) hP hD hS
  · refine lv_iconst (v := 1) hx hb dX6_goes_11 (by decide) ?_
    refine lv_goto (tgt := 16) hx hb dX6_goes_12 (by decide) ?_
    exact hM_5 true _ _ _ (if_neg c_1).symm (lv_sub hl [] rfl) hP hD hS
set_option maxRecDepth 100000 in
set_option maxHeartbeats 4000000 in
theorem k_X6_beamOf (l : Launch) (G : va_G) (cI cS cL : ClassId) (a : Nat) (row : Nat → Int32) (k : Nat) (hk : k < 8) : Ct l G (tyl cI cS cL) yX6_beamOf cX6_beamOf 2 (some (Jvm.ClassFile.FieldType.int)) 1 20 0 0 [.ref a, .int (nI k)] [rwC a cI 129 row].flatten (f_X6_beamOf row k) (fun u => some (.int u)) (fun _ => [rwC a cI 129 row].flatten) := by
  refine Ct.of (by decide +kernel) (Nat.le_of_ble_eq_true rfl) ?_
  intro p e s m args below meth c A ls hx hb hr hml hw hown hlocks hin hK hN hP hD hS hA hl
  have hown : s.vm.findClass RX6 = some m.cls := hown
  have X : Cx p s m args c cX6_beamOf 2 RX6 G (tyl cI cS cL) := ⟨hx, hb, hml, hown, hw, hK, hN⟩
  have hP : va_P G classes [rwC a cI 129 row].flatten s.heap := hP
  have hl : lv_has ls 2 [(0, .ref a), (1, .int (nI k))] := hl
  generalize hQQ : MQ below _ args s 0 0 A = QQ
  refine lv_aload_n hx hb dX6_beamOf_0 rfl (lv_at hl 0 rfl) ?_
  refine lv_iload_n hx hb dX6_beamOf_1 rfl (lv_at hl 1 rfl) ?_
  refine ct_callS (As := [.int (nI k)]) (rest := [.ref a]) X hP hD hS hA (k_X6_spot l G cI cS cL  k) cq_X6_spot aw_951 ⟨Nat.le_of_ble_eq_true rfl, Nat.le_of_ble_eq_true rfl⟩ ([] : List Nat) (cs := []) rfl (by decide) (cs' := []) rfl rfl rfl hl.1 rfl (Nat.le_of_ble_eq_true rfl) dX6_beamOf_2 ⟨Nat.zero_le _, Nat.zero_le _⟩ rfl (bs' := [rwC a cI 129 row]) rfl (fun H locs hP hD hS => ?_)
  refine lv_iconst (v := 0) hx hb dX6_beamOf_5 (by decide) ?_
  refine nv_iadd hx hb (6 + (7 * k)) 0 dX6_beamOf_6 ?_
  refine nv_iald hx hb hK hP 0 0 rfl rfl ((6 + (7 * k)) + 0) (by omega) (by decide) dX6_beamOf_7 ?_
  rw [← hQQ]; exact W.iret hx hb hr (ct_end (F := (f_X6_beamOf row k)) (u := (row ((6 + (7 * k)) + 0))) (rf := (fun u => some (.int u))) (wf := (fun _ => [rwC a cI 129 row].flatten)) rfl rfl hP hD hS) hS.2.2 dX6_beamOf_8
set_option maxRecDepth 100000 in
set_option maxHeartbeats 4000000 in
theorem k_X6_size (l : Launch) (G : va_G) (cI cS cL : ClassId) (v : Int32) : Ct l G (tyl cI cS cL) yX6_size cX6_size 1 (some (Jvm.ClassFile.FieldType.int)) 0 0 0 0 [.int v] [].flatten (f_X6_size v) (fun u => some (.int u)) (fun _ => [].flatten) := by
  refine Ct.of (by decide +kernel) (Nat.le_of_ble_eq_true rfl) ?_
  intro p e s m args below meth c A ls hx hb hr hml hw hown hlocks hin hK hN hP hD hS hA hl
  have hown : s.vm.findClass RX6 = some m.cls := hown
  have X : Cx p s m args c cX6_size 1 RX6 G (tyl cI cS cL) := ⟨hx, hb, hml, hown, hw, hK, hN⟩
  have hP : va_P G classes [].flatten s.heap := hP
  have hl : lv_has ls 1 [(0, .int v)] := hl
  generalize hQQ : MQ below _ args s 0 0 A = QQ
  refine lv_iload_n hx hb dX6_size_0 rfl (lv_at hl 0 rfl) ?_
  have hM_5 : ∀ (v_4 : Int32) (ls : Array Slot) (H : Heap) (locs : List Loc), v_4 = (if 0 ≤ v then v else (-v)) → lv_has ls 1 [] → va_P G classes [].flatten H → va_D A [].flatten → va_S A s.heap H locs → W p l e ({ frames := 0, cells := 0, slots := 0, locals := 0 } : Room) s m args below meth c H locs 0 0 QQ (F0 m 10 ls [.int v_4]) := by
    intro v_4 ls H locs e_v_4 hl hP hD hS
    subst e_v_4
    rw [← hQQ]; exact W.iret hx hb hr (ct_end (F := (f_X6_size v)) (u := (if 0 ≤ v then v else (-v))) (rf := (fun u => some (.int u))) (wf := (fun _ => [].flatten)) rfl rfl hP hD hS) hS.2.2 dX6_size_10
  refine lv_if_ge (tgt := 9) hx hb dX6_size_1 (by decide) (fun c_1 => ?_) (fun c_1 => ?_)
  · refine lv_iload_n hx hb dX6_size_9 rfl (lv_at hl 0 rfl) ?_
    exact hM_5 v _ _ _ (if_pos c_1).symm (lv_sub hl [] rfl) hP hD hS
  · refine lv_iload_n hx hb dX6_size_4 rfl (lv_at hl 0 rfl) ?_
    refine lv_ineg hx hb dX6_size_5 ?_
    refine lv_goto (tgt := 10) hx hb dX6_size_6 (by decide) ?_
    exact hM_5 (-v) _ _ _ (if_neg c_1).symm (lv_sub hl [] rfl) hP hD hS
set_option maxRecDepth 100000 in
set_option maxHeartbeats 4000000 in
theorem k_X6_gap (l : Launch) (G : va_G) (cI cS cL : ClassId) (a : Nat) (row : Nat → Int32) (k : Nat) (o : Nat) (hk : k < 8) (ho : o < 8) : Ct l G (tyl cI cS cL) yX6_gap cX6_gap 4 (some (Jvm.ClassFile.FieldType.int)) 1 20 0 0 [.ref a, .int (nI k), .int (nI o)] [rwC a cI 129 row].flatten (f_X6_gap row k o) (fun u => some (.int u)) (fun _ => [rwC a cI 129 row].flatten) := by
  refine Ct.of (by decide +kernel) (Nat.le_of_ble_eq_true rfl) ?_
  intro p e s m args below meth c A ls hx hb hr hml hw hown hlocks hin hK hN hP hD hS hA hl
  have hown : s.vm.findClass RX6 = some m.cls := hown
  have X : Cx p s m args c cX6_gap 4 RX6 G (tyl cI cS cL) := ⟨hx, hb, hml, hown, hw, hK, hN⟩
  have hP : va_P G classes [rwC a cI 129 row].flatten s.heap := hP
  have hl : lv_has ls 4 [(0, .ref a), (1, .int (nI k)), (2, .int (nI o))] := hl
  generalize hQQ : MQ below _ args s 0 0 A = QQ
  refine lv_aload_n hx hb dX6_gap_0 rfl (lv_at hl 0 rfl) ?_
  refine lv_iload_n hx hb dX6_gap_1 rfl (lv_at hl 2 rfl) ?_
  refine ct_callS (As := [.int (nI o)]) (rest := [.ref a]) X hP hD hS hA (k_X6_spot l G cI cS cL  o) cq_X6_spot aw_951 ⟨Nat.le_of_ble_eq_true rfl, Nat.le_of_ble_eq_true rfl⟩ ([] : List Nat) (cs := []) rfl (by decide) (cs' := []) rfl rfl rfl hl.1 rfl (Nat.le_of_ble_eq_true rfl) dX6_gap_2 ⟨Nat.zero_le _, Nat.zero_le _⟩ rfl (bs' := [rwC a cI 129 row]) rfl (fun H locs hP hD hS => ?_)
  refine lv_iconst (v := 2) hx hb dX6_gap_5 (by decide) ?_
  refine nv_iadd hx hb (6 + (7 * o)) 2 dX6_gap_6 ?_
  refine nv_iald hx hb hK hP 0 0 rfl rfl ((6 + (7 * o)) + 2) (by omega) (by decide) dX6_gap_7 ?_
  refine lv_aload_n hx hb dX6_gap_8 rfl (lv_at hl 0 rfl) ?_
  refine lv_iload_n hx hb dX6_gap_9 rfl (lv_at hl 1 rfl) ?_
  refine ct_callS (As := [.int (nI k)]) (rest := [.ref a, .int (row ((6 + (7 * o)) + 2))]) X hP hD hS hA (k_X6_spot l G cI cS cL  k) cq_X6_spot aw_951 ⟨Nat.le_of_ble_eq_true rfl, Nat.le_of_ble_eq_true rfl⟩ ([] : List Nat) (cs := []) rfl (by decide) (cs' := []) rfl rfl rfl hl.1 rfl (Nat.le_of_ble_eq_true rfl) dX6_gap_10 ⟨Nat.zero_le _, Nat.zero_le _⟩ rfl (bs' := [rwC a cI 129 row]) rfl (fun H locs hP hD hS => ?_)
  refine lv_iconst (v := 2) hx hb dX6_gap_13 (by decide) ?_
  refine nv_iadd hx hb (6 + (7 * k)) 2 dX6_gap_14 ?_
  refine nv_iald hx hb hK hP 0 0 rfl rfl ((6 + (7 * k)) + 2) (by omega) (by decide) dX6_gap_15 ?_
  refine lv_isub hx hb dX6_gap_16 ?_
  refine lv_istore_n (lv' := [(3, .int ((row ((6 + (7 * o)) + 2)) - (row ((6 + (7 * k)) + 2)))), (0, .ref a), (1, .int (nI k)), (2, .int (nI o))]) hx hb dX6_gap_17 rfl hl (by decide) rfl (fun ls hl => ?_)
  refine lv_iload_n hx hb dX6_gap_18 rfl (lv_at hl 0 rfl) ?_
  refine lv_sipush (v := 500) hx hb dX6_gap_19 (by decide) ?_
  have hM_10 : ∀ (v_9 : Int32) (ls : Array Slot) (H : Heap) (locs : List Loc), v_9 = (if ((row ((6 + (7 * o)) + 2)) - (row ((6 + (7 * k)) + 2))) < (500 : Int32) then (if (-500 : Int32) ≤ ((row ((6 + (7 * o)) + 2)) - (row ((6 + (7 * k)) + 2))) then ((row ((6 + (7 * o)) + 2)) - (row ((6 + (7 * k)) + 2))) else (((row ((6 + (7 * o)) + 2)) - (row ((6 + (7 * k)) + 2))) + (1000 : Int32))) else (((row ((6 + (7 * o)) + 2)) - (row ((6 + (7 * k)) + 2))) - (1000 : Int32))) → lv_has ls 4 [] → va_P G classes [rwC a cI 129 row].flatten H → va_D A [rwC a cI 129 row].flatten → va_S A s.heap H locs → W p l e ({ frames := 1, cells := 0, slots := 0, locals := 20 } : Room) s m args below meth c H locs 0 0 QQ (F0 m 49 ls [.int v_9]) := by
    intro v_9 ls H locs e_v_9 hl hP hD hS
    subst e_v_9
    rw [← hQQ]; exact W.iret hx hb hr (ct_end (F := (f_X6_gap row k o)) (u := (if ((row ((6 + (7 * o)) + 2)) - (row ((6 + (7 * k)) + 2))) < (500 : Int32) then (if (-500 : Int32) ≤ ((row ((6 + (7 * o)) + 2)) - (row ((6 + (7 * k)) + 2))) then ((row ((6 + (7 * o)) + 2)) - (row ((6 + (7 * k)) + 2))) else (((row ((6 + (7 * o)) + 2)) - (row ((6 + (7 * k)) + 2))) + (1000 : Int32))) else (((row ((6 + (7 * o)) + 2)) - (row ((6 + (7 * k)) + 2))) - (1000 : Int32)))) (rf := (fun u => some (.int u))) (wf := (fun _ => [rwC a cI 129 row].flatten)) rfl rfl hP hD hS) hS.2.2 dX6_gap_49
  refine lv_icmp_lt (tgt := 33) hx hb dX6_gap_22 (by decide) (fun c_1 => ?_) (fun c_1 => ?_)
  · refine lv_iload_n hx hb dX6_gap_33 rfl (lv_at hl 0 rfl) ?_
    refine lv_sipush (v := -500) hx hb dX6_gap_34 (by decide) ?_
    have hM_6 : ∀ (v_5 : Int32) (ls : Array Slot) (H : Heap) (locs : List Loc), v_5 = (if (-500 : Int32) ≤ ((row ((6 + (7 * o)) + 2)) - (row ((6 + (7 * k)) + 2))) then ((row ((6 + (7 * o)) + 2)) - (row ((6 + (7 * k)) + 2))) else (((row ((6 + (7 * o)) + 2)) - (row ((6 + (7 * k)) + 2))) + (1000 : Int32))) → lv_has ls 4 [] → va_P G classes [rwC a cI 129 row].flatten H → va_D A [rwC a cI 129 row].flatten → va_S A s.heap H locs → W p l e ({ frames := 1, cells := 0, slots := 0, locals := 20 } : Room) s m args below meth c H locs 0 0 QQ (F0 m 49 ls [.int v_5]) := by
      intro v_5 ls H locs e_v_5 hl hP hD hS
      subst e_v_5
      exact hM_10 (if (-500 : Int32) ≤ ((row ((6 + (7 * o)) + 2)) - (row ((6 + (7 * k)) + 2))) then ((row ((6 + (7 * o)) + 2)) - (row ((6 + (7 * k)) + 2))) else (((row ((6 + (7 * o)) + 2)) - (row ((6 + (7 * k)) + 2))) + (1000 : Int32))) _ _ _ (if_pos c_1).symm (lv_sub hl [] rfl) hP hD hS
    refine lv_icmp_ge (tgt := 48) hx hb dX6_gap_37 (by decide) (fun c_2 => ?_) (fun c_2 => ?_)
    · refine lv_iload_n hx hb dX6_gap_48 rfl (lv_at hl 0 rfl) ?_
      exact hM_6 ((row ((6 + (7 * o)) + 2)) - (row ((6 + (7 * k)) + 2))) _ _ _ (if_pos c_2).symm (lv_sub hl [] rfl) hP hD hS
    · refine lv_iload_n hx hb dX6_gap_40 rfl (lv_at hl 0 rfl) ?_
      refine lv_sipush (v := 1000) hx hb dX6_gap_41 (by decide) ?_
      refine lv_iadd hx hb dX6_gap_44 ?_
      refine lv_goto (tgt := 49) hx hb dX6_gap_45 (by decide) ?_
      exact hM_6 (((row ((6 + (7 * o)) + 2)) - (row ((6 + (7 * k)) + 2))) + (1000 : Int32)) _ _ _ (if_neg c_2).symm (lv_sub hl [] rfl) hP hD hS
  · refine lv_iload_n hx hb dX6_gap_25 rfl (lv_at hl 0 rfl) ?_
    refine lv_sipush (v := 1000) hx hb dX6_gap_26 (by decide) ?_
    refine lv_isub hx hb dX6_gap_29 ?_
    refine lv_goto (tgt := 49) hx hb dX6_gap_30 (by decide) ?_
    exact hM_10 (((row ((6 + (7 * o)) + 2)) - (row ((6 + (7 * k)) + 2))) - (1000 : Int32)) _ _ _ (if_neg c_1).symm (lv_sub hl [] rfl) hP hD hS
set_option maxRecDepth 100000 in
set_option maxHeartbeats 4000000 in
theorem k_X6_pull (l : Launch) (G : va_G) (cI cS cL : ClassId) (a : Nat) (row : Nat → Int32) (k : Nat) (hk : k < 8) (hI : InvB row) : Ct l G (tyl cI cS cL) yX6_pull cX6_pull 4 (some (Jvm.ClassFile.FieldType.int)) 2 43 0 0 [.ref a, .int (nI k)] [rwC a cI 129 row].flatten (f_X6_pull row k) (fun u => some (.int u)) (fun _ => [rwC a cI 129 row].flatten) := by
  refine Ct.of (by decide +kernel) (Nat.le_of_ble_eq_true rfl) ?_
  intro p e s m args below meth c A ls hx hb hr hml hw hown hlocks hin hK hN hP hD hS hA hl
  have hown : s.vm.findClass RX6 = some m.cls := hown
  have X : Cx p s m args c cX6_pull 4 RX6 G (tyl cI cS cL) := ⟨hx, hb, hml, hown, hw, hK, hN⟩
  have hP : va_P G classes [rwC a cI 129 row].flatten s.heap := hP
  have hl : lv_has ls 4 [(0, .ref a), (1, .int (nI k))] := hl
  generalize hQQ : MQ below _ args s 0 0 A = QQ
  refine lv_iconst (v := 0) hx hb dX6_pull_0 (by decide) ?_
  refine lv_istore_n (lv' := [(2, .int (0 : Int32)), (0, .ref a), (1, .int (nI k))]) hx hb dX6_pull_1 rfl hl (by decide) rfl (fun ls hl => ?_)
  refine lv_aload_n hx hb dX6_pull_2 rfl (lv_at hl 1 rfl) ?_
  refine lv_iload_n hx hb dX6_pull_3 rfl (lv_at hl 2 rfl) ?_
  refine ct_callS (As := [.ref a, .int (nI k)]) (rest := []) X hP hD hS hA (k_X6_goes l G cI cS cL a row k (by omega)) cq_X6_goes aw_948 ⟨Nat.le_of_ble_eq_true rfl, Nat.le_of_ble_eq_true rfl⟩ [0] (cs := [rwC a cI 129 row]) rfl (by decide) (cs' := [rwC a cI 129 row]) rfl rfl rfl hl.1 rfl (Nat.le_of_ble_eq_true rfl) dX6_pull_4 ⟨Nat.zero_le _, Nat.zero_le _⟩ rfl (bs' := [rwC a cI 129 row]) rfl (fun H locs hP hD hS => ?_)
  refine bv_ifne hx hb (f_X6_goes row k) 12 dX6_pull_7 (by decide) (fun c_1 => ?_) (fun c_1 => ?_)
  · refine lv_iconst (v := 0) hx hb dX6_pull_12 (by decide) ?_
    refine lv_istore_n (lv' := [(3, .int (0 : Int32)), (2, .int (0 : Int32)), (0, .ref a), (1, .int (nI k))]) hx hb dX6_pull_13 rfl hl (by decide) rfl (fun ls hl => ?_)
    refine it_loop (f := (L_X6_pull_14 row k)) 8 (fun (i14 : Nat) (s14 : Int32) => ∀ (ls : Array Slot) (H : Heap) (locs : List Loc), lv_has ls 4 [(3, .int (nI i14)), (2, .int s14), (0, .ref a), (1, .int (nI k))] → va_P G classes [rwC a cI 129 row].flatten H → va_D A [rwC a cI 129 row].flatten → va_S A s.heap H locs → W p l e ({ frames := 2, cells := 0, slots := 0, locals := 43 } : Room) s m args below meth c H locs 0 0 QQ (F0 m 14 ls [])) (fun i14 s14 hi14 ih => ?_) 8 0 (0 : Int32) (by omega) ?_ ls _ _ (lv_sub hl [0, 1, 2, 3] rfl) hP hD hS
    · intro ls H locs hl hP hD hS
      refine lv_iload_n hx hb dX6_pull_14 rfl (lv_at hl 0 rfl) ?_
      refine lv_bipush (v := 8) hx hb dX6_pull_15 (by decide) ?_
      refine nv_ge hx hb i14 8 75 (by omega) (by omega) dX6_pull_17 (by decide) (fun hc => absurd hc (by omega)) (fun _ => ?_)
      refine lv_iload_n hx hb dX6_pull_20 rfl (lv_at hl 0 rfl) ?_
      refine lv_iload_n hx hb dX6_pull_21 rfl (lv_at hl 3 rfl) ?_
      have hM_18 : ∀ (v_17 : Int32) (ls : Array Slot) (H : Heap) (locs : List Loc), v_17 = (if i14 = k then s14 else (if (f_X6_goes row i14) = true then (if (f_X6_beamOf row i14) = (f_X6_beamOf row k) then (s14 + (((f_X6_gap row k i14) * (row ((0 : Int32) + (f_X6_beamOf row k)).toNatClampNeg)) / (200 : Int32))) else s14) else s14)) → lv_has ls 4 [(3, .int (nI i14)), (2, .int v_17), (0, .ref a), (1, .int (nI k))] → va_P G classes [rwC a cI 129 row].flatten H → va_D A [rwC a cI 129 row].flatten → va_S A s.heap H locs → W p l e ({ frames := 2, cells := 0, slots := 0, locals := 43 } : Room) s m args below meth c H locs 0 0 QQ (F0 m 69 ls []) := by
        intro v_17 ls H locs e_v_17 hl hP hD hS
        subst e_v_17
        refine nv_iinc (k := 0) (lv' := [(3, .int (nI (i14 + 1))), (2, .int (if i14 = k then s14 else (if (f_X6_goes row i14) = true then (if (f_X6_beamOf row i14) = (f_X6_beamOf row k) then (s14 + (((f_X6_gap row k i14) * (row ((0 : Int32) + (f_X6_beamOf row k)).toNatClampNeg)) / (200 : Int32))) else s14) else s14))), (0, .ref a), (1, .int (nI k))]) hx hb i14 dX6_pull_69 hl rfl (by decide) rfl (fun ls hl => ?_)
        refine lv_goto (tgt := 14) hx hb dX6_pull_72 (by decide) ?_
        exact ih _ _ _ (lv_sub hl [0, 1, 2, 3] rfl) hP hD hS
      refine nv_eq hx hb i14 k 69 (by omega) (by omega) dX6_pull_22 (by decide) (fun c_4 => ?_) (fun c_4 => ?_)
      · exact hM_18 s14 _ _ _ (if_pos c_4).symm (lv_sub hl [0, 1, 2, 3] rfl) hP hD hS
      · refine lv_aload_n hx hb dX6_pull_25 rfl (lv_at hl 2 rfl) ?_
        refine lv_iload_n hx hb dX6_pull_26 rfl (lv_at hl 0 rfl) ?_
        refine ct_callS (As := [.ref a, .int (nI i14)]) (rest := []) X hP hD hS hA (k_X6_goes l G cI cS cL a row i14 (by omega)) cq_X6_goes aw_948 ⟨Nat.le_of_ble_eq_true rfl, Nat.le_of_ble_eq_true rfl⟩ [0] (cs := [rwC a cI 129 row]) rfl (by decide) (cs' := [rwC a cI 129 row]) rfl rfl rfl hl.1 rfl (Nat.le_of_ble_eq_true rfl) dX6_pull_27 ⟨Nat.zero_le _, Nat.zero_le _⟩ rfl (bs' := [rwC a cI 129 row]) rfl (fun H locs hP hD hS => ?_)
        have hM_15 : ∀ (v_14 : Int32) (ls : Array Slot) (H : Heap) (locs : List Loc), v_14 = (if (f_X6_goes row i14) = true then (if (f_X6_beamOf row i14) = (f_X6_beamOf row k) then (s14 + (((f_X6_gap row k i14) * (row ((0 : Int32) + (f_X6_beamOf row k)).toNatClampNeg)) / (200 : Int32))) else s14) else s14) → lv_has ls 4 [(2, .int v_14), (3, .int (nI i14)), (0, .ref a), (1, .int (nI k))] → va_P G classes [rwC a cI 129 row].flatten H → va_D A [rwC a cI 129 row].flatten → va_S A s.heap H locs → W p l e ({ frames := 2, cells := 0, slots := 0, locals := 43 } : Room) s m args below meth c H locs 0 0 QQ (F0 m 69 ls []) := by
          intro v_14 ls H locs e_v_14 hl hP hD hS
          subst e_v_14
          exact hM_18 (if (f_X6_goes row i14) = true then (if (f_X6_beamOf row i14) = (f_X6_beamOf row k) then (s14 + (((f_X6_gap row k i14) * (row ((0 : Int32) + (f_X6_beamOf row k)).toNatClampNeg)) / (200 : Int32))) else s14) else s14) _ _ _ (if_neg c_4).symm (lv_sub hl [1, 0, 2, 3] rfl) hP hD hS
        refine bv_ifeq hx hb (f_X6_goes row i14) 69 dX6_pull_30 (by decide) (fun c_6 => ?_) (fun c_6 => ?_)
        · exact hM_15 s14 _ _ _ (if_neg c_6).symm (lv_sub hl [1, 0, 2, 3] rfl) hP hD hS
        · refine lv_aload_n hx hb dX6_pull_33 rfl (lv_at hl 2 rfl) ?_
          refine lv_iload_n hx hb dX6_pull_34 rfl (lv_at hl 0 rfl) ?_
          refine ct_callS (As := [.ref a, .int (nI i14)]) (rest := []) X hP hD hS hA (k_X6_beamOf l G cI cS cL a row i14 (by omega)) cq_X6_beamOf aw_954 ⟨Nat.le_of_ble_eq_true rfl, Nat.le_of_ble_eq_true rfl⟩ [0] (cs := [rwC a cI 129 row]) rfl (by decide) (cs' := [rwC a cI 129 row]) rfl rfl rfl hl.1 rfl (Nat.le_of_ble_eq_true rfl) dX6_pull_35 ⟨Nat.zero_le _, Nat.zero_le _⟩ rfl (bs' := [rwC a cI 129 row]) rfl (fun H locs hP hD hS => ?_)
          refine lv_aload_n hx hb dX6_pull_38 rfl (lv_at hl 2 rfl) ?_
          refine lv_iload_n hx hb dX6_pull_39 rfl (lv_at hl 3 rfl) ?_
          refine ct_callS (As := [.ref a, .int (nI k)]) (rest := [.int (f_X6_beamOf row i14)]) X hP hD hS hA (k_X6_beamOf l G cI cS cL a row k (by omega)) cq_X6_beamOf aw_954 ⟨Nat.le_of_ble_eq_true rfl, Nat.le_of_ble_eq_true rfl⟩ [0] (cs := [rwC a cI 129 row]) rfl (by decide) (cs' := [rwC a cI 129 row]) rfl rfl rfl hl.1 rfl (Nat.le_of_ble_eq_true rfl) dX6_pull_40 ⟨Nat.zero_le _, Nat.zero_le _⟩ rfl (bs' := [rwC a cI 129 row]) rfl (fun H locs hP hD hS => ?_)
          have hM_12 : ∀ (v_11 : Int32) (ls : Array Slot) (H : Heap) (locs : List Loc), v_11 = (if (f_X6_beamOf row i14) = (f_X6_beamOf row k) then (s14 + (((f_X6_gap row k i14) * (row ((0 : Int32) + (f_X6_beamOf row k)).toNatClampNeg)) / (200 : Int32))) else s14) → lv_has ls 4 [(2, .int v_11), (3, .int (nI i14)), (0, .ref a), (1, .int (nI k))] → va_P G classes [rwC a cI 129 row].flatten H → va_D A [rwC a cI 129 row].flatten → va_S A s.heap H locs → W p l e ({ frames := 2, cells := 0, slots := 0, locals := 43 } : Room) s m args below meth c H locs 0 0 QQ (F0 m 69 ls []) := by
            intro v_11 ls H locs e_v_11 hl hP hD hS
            subst e_v_11
            exact hM_15 (if (f_X6_beamOf row i14) = (f_X6_beamOf row k) then (s14 + (((f_X6_gap row k i14) * (row ((0 : Int32) + (f_X6_beamOf row k)).toNatClampNeg)) / (200 : Int32))) else s14) _ _ _ (if_pos c_6).symm (lv_sub hl [0, 1, 2, 3] rfl) hP hD hS
          refine iv_ne hx hb 69 dX6_pull_43 (by decide) (fun c_8 => ?_) (fun c_8 => ?_)
          · exact hM_12 s14 _ _ _ (if_neg c_8).symm (lv_sub hl [1, 0, 2, 3] rfl) hP hD hS
          · refine lv_iload_n hx hb dX6_pull_46 rfl (lv_at hl 1 rfl) ?_
            refine lv_aload_n hx hb dX6_pull_47 rfl (lv_at hl 2 rfl) ?_
            refine lv_iload_n hx hb dX6_pull_48 rfl (lv_at hl 3 rfl) ?_
            refine lv_iload_n hx hb dX6_pull_49 rfl (lv_at hl 0 rfl) ?_
            refine ct_callS (As := [.ref a, .int (nI k), .int (nI i14)]) (rest := [.int s14]) X hP hD hS hA (k_X6_gap l G cI cS cL a row k i14 (by omega) (by omega)) cq_X6_gap aw_957 ⟨Nat.le_of_ble_eq_true rfl, Nat.le_of_ble_eq_true rfl⟩ [0] (cs := [rwC a cI 129 row]) rfl (by decide) (cs' := [rwC a cI 129 row]) rfl rfl rfl hl.1 rfl (Nat.le_of_ble_eq_true rfl) dX6_pull_50 ⟨Nat.zero_le _, Nat.zero_le _⟩ rfl (bs' := [rwC a cI 129 row]) rfl (fun H locs hP hD hS => ?_)
            refine lv_aload_n hx hb dX6_pull_53 rfl (lv_at hl 2 rfl) ?_
            refine lv_iconst (v := 0) hx hb dX6_pull_54 (by decide) ?_
            refine lv_aload_n hx hb dX6_pull_55 rfl (lv_at hl 2 rfl) ?_
            refine lv_iload_n hx hb dX6_pull_56 rfl (lv_at hl 3 rfl) ?_
            refine ct_callS (As := [.ref a, .int (nI k)]) (rest := [.int (0 : Int32), .ref a, .int (f_X6_gap row k i14), .int s14]) X hP hD hS hA (k_X6_beamOf l G cI cS cL a row k (by omega)) cq_X6_beamOf aw_954 ⟨Nat.le_of_ble_eq_true rfl, Nat.le_of_ble_eq_true rfl⟩ [0] (cs := [rwC a cI 129 row]) rfl (by decide) (cs' := [rwC a cI 129 row]) rfl rfl rfl hl.1 rfl (Nat.le_of_ble_eq_true rfl) dX6_pull_57 ⟨Nat.zero_le _, Nat.zero_le _⟩ rfl (bs' := [rwC a cI 129 row]) rfl (fun H locs hP hD hS => ?_)
            refine lv_iadd hx hb dX6_pull_60 ?_
            refine va_iald hx hb hK hP 0 0 rfl rfl (by exact vp_0add (hI k (by omega))) dX6_pull_61 ?_
            refine lv_imul hx hb dX6_pull_62 ?_
            refine lv_sipush (v := 200) hx hb dX6_pull_63 (by decide) ?_
            refine lv_idiv hx hb dX6_pull_66 (by first | decide | assumption) ?_
            refine lv_iadd hx hb dX6_pull_67 ?_
            refine lv_istore_n (lv' := [(2, .int (s14 + (((f_X6_gap row k i14) * (row ((0 : Int32) + (f_X6_beamOf row k)).toNatClampNeg)) / (200 : Int32)))), (3, .int (nI i14)), (0, .ref a), (1, .int (nI k))]) hx hb dX6_pull_68 rfl hl (by decide) rfl (fun ls hl => ?_)
            exact hM_12 (s14 + (((f_X6_gap row k i14) * (row ((0 : Int32) + (f_X6_beamOf row k)).toNatClampNeg)) / (200 : Int32))) _ _ _ (if_pos c_8).symm (lv_sub hl [0, 1, 2, 3] rfl) hP hD hS
    · intro ls H locs hl hP hD hS
      refine lv_iload_n hx hb dX6_pull_14 rfl (lv_at hl 0 rfl) ?_
      refine lv_bipush (v := 8) hx hb dX6_pull_15 (by decide) ?_
      refine nv_ge hx hb 8 8 75 (by omega) (by omega) dX6_pull_17 (by decide) (fun _ => ?_) (fun hc => absurd hc (by omega))
      refine lv_aload_n hx hb dX6_pull_75 rfl (lv_at hl 2 rfl) ?_
      refine lv_iconst (v := 3) hx hb dX6_pull_76 (by decide) ?_
      refine nv_iald hx hb hK hP 0 0 rfl rfl 3 (by omega) (by decide) dX6_pull_77 ?_
      refine lv_istore_n (lv' := [(3, .int (row 3)), (2, .int (it (L_X6_pull_14 row k) 0 8 (0 : Int32))), (0, .ref a), (1, .int (nI k))]) hx hb dX6_pull_78 rfl hl (by decide) rfl (fun ls hl => ?_)
      refine lv_iload_n hx hb dX6_pull_79 rfl (lv_at hl 1 rfl) ?_
      refine lv_iload_n hx hb dX6_pull_80 rfl (lv_at hl 0 rfl) ?_
      have hM_32 : ∀ (v_31 : Int32) (ls : Array Slot) (H : Heap) (locs : List Loc), v_31 = (if (it (L_X6_pull_14 row k) 0 8 (0 : Int32)) ≤ (row 3) then (if (-(row 3)) ≤ (it (L_X6_pull_14 row k) 0 8 (0 : Int32)) then (it (L_X6_pull_14 row k) 0 8 (0 : Int32)) else (-(row 3))) else (row 3)) → lv_has ls 4 [] → va_P G classes [rwC a cI 129 row].flatten H → va_D A [rwC a cI 129 row].flatten → va_S A s.heap H locs → W p l e ({ frames := 2, cells := 0, slots := 0, locals := 43 } : Room) s m args below meth c H locs 0 0 QQ (F0 m 100 ls [.int v_31]) := by
        intro v_31 ls H locs e_v_31 hl hP hD hS
        subst e_v_31
        rw [← hQQ]; exact W.iret hx hb hr (ct_end (F := (f_X6_pull row k)) (u := (if (it (L_X6_pull_14 row k) 0 8 (0 : Int32)) ≤ (row 3) then (if (-(row 3)) ≤ (it (L_X6_pull_14 row k) 0 8 (0 : Int32)) then (it (L_X6_pull_14 row k) 0 8 (0 : Int32)) else (-(row 3))) else (row 3))) (rf := (fun u => some (.int u))) (wf := (fun _ => [rwC a cI 129 row].flatten)) (by first | (unfold f_X6_pull; rw [if_pos c_1]; first | done | rfl) | (unfold f_X6_pull; simp only [if_pos c_1])) rfl hP hD hS) hS.2.2 dX6_pull_100
      refine lv_icmp_le (tgt := 88) hx hb dX6_pull_81 (by decide) (fun c_23 => ?_) (fun c_23 => ?_)
      · refine lv_iload_n hx hb dX6_pull_88 rfl (lv_at hl 1 rfl) ?_
        refine lv_iload_n hx hb dX6_pull_89 rfl (lv_at hl 0 rfl) ?_
        refine lv_ineg hx hb dX6_pull_90 ?_
        have hM_28 : ∀ (v_27 : Int32) (ls : Array Slot) (H : Heap) (locs : List Loc), v_27 = (if (-(row 3)) ≤ (it (L_X6_pull_14 row k) 0 8 (0 : Int32)) then (it (L_X6_pull_14 row k) 0 8 (0 : Int32)) else (-(row 3))) → lv_has ls 4 [] → va_P G classes [rwC a cI 129 row].flatten H → va_D A [rwC a cI 129 row].flatten → va_S A s.heap H locs → W p l e ({ frames := 2, cells := 0, slots := 0, locals := 43 } : Room) s m args below meth c H locs 0 0 QQ (F0 m 100 ls [.int v_27]) := by
          intro v_27 ls H locs e_v_27 hl hP hD hS
          subst e_v_27
          exact hM_32 (if (-(row 3)) ≤ (it (L_X6_pull_14 row k) 0 8 (0 : Int32)) then (it (L_X6_pull_14 row k) 0 8 (0 : Int32)) else (-(row 3))) _ _ _ (if_pos c_23).symm (lv_sub hl [] rfl) hP hD hS
        refine lv_icmp_ge (tgt := 99) hx hb dX6_pull_91 (by decide) (fun c_24 => ?_) (fun c_24 => ?_)
        · refine lv_iload_n hx hb dX6_pull_99 rfl (lv_at hl 1 rfl) ?_
          exact hM_28 (it (L_X6_pull_14 row k) 0 8 (0 : Int32)) _ _ _ (if_pos c_24).symm (lv_sub hl [] rfl) hP hD hS
        · refine lv_iload_n hx hb dX6_pull_94 rfl (lv_at hl 0 rfl) ?_
          refine lv_ineg hx hb dX6_pull_95 ?_
          refine lv_goto (tgt := 100) hx hb dX6_pull_96 (by decide) ?_
          exact hM_28 (-(row 3)) _ _ _ (if_neg c_24).symm (lv_sub hl [] rfl) hP hD hS
      · refine lv_iload_n hx hb dX6_pull_84 rfl (lv_at hl 0 rfl) ?_
        refine lv_goto (tgt := 100) hx hb dX6_pull_85 (by decide) ?_
        exact hM_32 (row 3) _ _ _ (if_neg c_23).symm (lv_sub hl [] rfl) hP hD hS
  · refine lv_iconst (v := 0) hx hb dX6_pull_10 (by decide) ?_
    rw [← hQQ]; exact W.iret hx hb hr (ct_end (F := (f_X6_pull row k)) (u := (0 : Int32)) (rf := (fun u => some (.int u))) (wf := (fun _ => [rwC a cI 129 row].flatten)) (by first | (unfold f_X6_pull; rw [if_neg c_1]; first | done | rfl) | (unfold f_X6_pull; simp only [if_neg c_1])) rfl hP hD hS) hS.2.2 dX6_pull_11
set_option maxRecDepth 100000 in
set_option maxHeartbeats 4000000 in
theorem k_X6_near (l : Launch) (G : va_G) (cI cS cL : ClassId) (k : Nat) (o : Nat) (hk : k < 8) (ho : o < 8) : Ct l G (tyl cI cS cL) yX6_near cX6_near 2 (some (Jvm.ClassFile.FieldType.int)) 0 0 0 0 [.int (nI k), .int (nI o)] [].flatten (f_X6_near k o) (fun u => some (.int (nI u))) (fun _ => [].flatten) := by
  refine Ct.of (by decide +kernel) (Nat.le_of_ble_eq_true rfl) ?_
  intro p e s m args below meth c A ls hx hb hr hml hw hown hlocks hin hK hN hP hD hS hA hl
  have hown : s.vm.findClass RX6 = some m.cls := hown
  have X : Cx p s m args c cX6_near 2 RX6 G (tyl cI cS cL) := ⟨hx, hb, hml, hown, hw, hK, hN⟩
  have hP : va_P G classes [].flatten s.heap := hP
  have hl : lv_has ls 2 [(0, .int (nI k)), (1, .int (nI o))] := hl
  generalize hQQ : MQ below _ args s 0 0 A = QQ
  refine lv_bipush (v := 62) hx hb dX6_near_0 (by decide) ?_
  refine lv_iload_n hx hb dX6_near_2 rfl (lv_at hl 0 rfl) ?_
  refine lv_iload_n hx hb dX6_near_3 rfl (lv_at hl 1 rfl) ?_
  have hM_5 : ∀ (v_4 : Nat) (ls : Array Slot) (H : Heap) (locs : List Loc), v_4 = (if o ≤ k then ((8 * o) + k) else ((8 * k) + o)) → lv_has ls 2 [] → va_P G classes [].flatten H → va_D A [].flatten → va_S A s.heap H locs → W p l e ({ frames := 0, cells := 0, slots := 0, locals := 0 } : Room) s m args below meth c H locs 0 0 QQ (F0 m 22 ls [.int (nI v_4), .int (62 : Int32)]) := by
    intro v_4 ls H locs e_v_4 hl hP hD hS
    subst e_v_4
    refine nv_iadd hx hb 62 (if o ≤ k then ((8 * o) + k) else ((8 * k) + o)) dX6_near_22 ?_
    rw [← hQQ]; exact W.iret hx hb hr (ct_end (F := (f_X6_near k o)) (u := (62 + (if o ≤ k then ((8 * o) + k) else ((8 * k) + o)))) (rf := (fun u => some (.int (nI u)))) (wf := (fun _ => [].flatten)) rfl rfl hP hD hS) hS.2.2 dX6_near_23
  refine nv_ge hx hb k o 16 (by omega) (by omega) dX6_near_4 (by decide) (fun c_1 => ?_) (fun c_1 => ?_)
  · refine lv_bipush (v := 8) hx hb dX6_near_16 (by decide) ?_
    refine lv_iload_n hx hb dX6_near_18 rfl (lv_at hl 1 rfl) ?_
    refine nv_imul hx hb 8 o dX6_near_19 ?_
    refine lv_iload_n hx hb dX6_near_20 rfl (lv_at hl 0 rfl) ?_
    refine nv_iadd hx hb (8 * o) k dX6_near_21 ?_
    exact hM_5 ((8 * o) + k) _ _ _ (if_pos c_1).symm (lv_sub hl [] rfl) hP hD hS
  · refine lv_bipush (v := 8) hx hb dX6_near_7 (by decide) ?_
    refine lv_iload_n hx hb dX6_near_9 rfl (lv_at hl 0 rfl) ?_
    refine nv_imul hx hb 8 k dX6_near_10 ?_
    refine lv_iload_n hx hb dX6_near_11 rfl (lv_at hl 1 rfl) ?_
    refine nv_iadd hx hb (8 * k) o dX6_near_12 ?_
    refine lv_goto (tgt := 22) hx hb dX6_near_13 (by decide) ?_
    exact hM_5 ((8 * k) + o) _ _ _ (if_neg c_1).symm (lv_sub hl [] rfl) hP hD hS
set_option maxRecDepth 100000 in
set_option maxHeartbeats 4000000 in
theorem k_X6_isNear (l : Launch) (G : va_G) (cI cS cL : ClassId) (a : Nat) (row : Nat → Int32) (k : Nat) (o : Nat) (hk : k < 8) (ho : o < 8) : Ct l G (tyl cI cS cL) yX6_isNear cX6_isNear 3 (some (Jvm.ClassFile.FieldType.boolean)) 2 43 0 0 [.ref a, .int (nI k), .int (nI o)] [rwC a cI 129 row].flatten (f_X6_isNear row k o) (fun u => some (.int (bI u))) (fun _ => [rwC a cI 129 row].flatten) := by
  refine Ct.of (by decide +kernel) (Nat.le_of_ble_eq_true rfl) ?_
  intro p e s m args below meth c A ls hx hb hr hml hw hown hlocks hin hK hN hP hD hS hA hl
  have hown : s.vm.findClass RX6 = some m.cls := hown
  have X : Cx p s m args c cX6_isNear 3 RX6 G (tyl cI cS cL) := ⟨hx, hb, hml, hown, hw, hK, hN⟩
  have hP : va_P G classes [rwC a cI 129 row].flatten s.heap := hP
  have hl : lv_has ls 3 [(0, .ref a), (1, .int (nI k)), (2, .int (nI o))] := hl
  generalize hQQ : MQ below _ args s 0 0 A = QQ
  refine lv_iload_n hx hb dX6_isNear_0 rfl (lv_at hl 1 rfl) ?_
  refine lv_iload_n hx hb dX6_isNear_1 rfl (lv_at hl 2 rfl) ?_
  have hM_5 : ∀ (v_4 : Int32) (ls : Array Slot) (H : Heap) (locs : List Loc), v_4 = (if o ≤ k then (f_X6_gap row o k) else (f_X6_gap row k o)) → lv_has ls 3 [(0, .ref a)] → va_P G classes [rwC a cI 129 row].flatten H → va_D A [rwC a cI 129 row].flatten → va_S A s.heap H locs → W p l e ({ frames := 2, cells := 0, slots := 0, locals := 43 } : Room) s m args below meth c H locs 0 0 QQ (F0 m 20 ls [.int v_4]) := by
    intro v_4 ls H locs e_v_4 hl hP hD hS
    subst e_v_4
    refine ct_callS (As := [.int (if o ≤ k then (f_X6_gap row o k) else (f_X6_gap row k o))]) (rest := []) X hP hD hS hA (k_X6_size l G cI cS cL  (if o ≤ k then (f_X6_gap row o k) else (f_X6_gap row k o))) cq_X6_size aw_966 ⟨Nat.le_of_ble_eq_true rfl, Nat.le_of_ble_eq_true rfl⟩ ([] : List Nat) (cs := []) rfl (by decide) (cs' := []) rfl rfl rfl hl.1 rfl (Nat.le_of_ble_eq_true rfl) dX6_isNear_20 ⟨Nat.zero_le _, Nat.zero_le _⟩ rfl (bs' := [rwC a cI 129 row]) rfl (fun H locs hP hD hS => ?_)
    refine lv_aload_n hx hb dX6_isNear_23 rfl (lv_at hl 0 rfl) ?_
    refine lv_iconst (v := 4) hx hb dX6_isNear_24 (by decide) ?_
    refine nv_iald hx hb hK hP 0 0 rfl rfl 4 (by omega) (by decide) dX6_isNear_25 ?_
    have hM_10 : ∀ (v_9 : Bool) (ls : Array Slot) (H : Heap) (locs : List Loc), v_9 = (if (row 4) < (f_X6_size (if o ≤ k then (f_X6_gap row o k) else (f_X6_gap row k o))) then false else true) → lv_has ls 3 [] → va_P G classes [rwC a cI 129 row].flatten H → va_D A [rwC a cI 129 row].flatten → va_S A s.heap H locs → W p l e ({ frames := 2, cells := 0, slots := 0, locals := 43 } : Room) s m args below meth c H locs 0 0 QQ (F0 m 34 ls [.int (bI v_9)]) := by
      intro v_9 ls H locs e_v_9 hl hP hD hS
      subst e_v_9
      rw [← hQQ]; exact W.zret (v := bI (if (row 4) < (f_X6_size (if o ≤ k then (f_X6_gap row o k) else (f_X6_gap row k o))) then false else true)) hx hb hr (nar_b _) (ct_end (F := (f_X6_isNear row k o)) (u := (if (row 4) < (f_X6_size (if o ≤ k then (f_X6_gap row o k) else (f_X6_gap row k o))) then false else true)) (rf := (fun u => some (.int (bI u)))) (wf := (fun _ => [rwC a cI 129 row].flatten)) rfl rfl hP hD hS) hS.2.2 dX6_isNear_34
    refine lv_icmp_gt (tgt := 33) hx hb dX6_isNear_26 (by decide) (fun c_6 => ?_) (fun c_6 => ?_)
    · refine lv_iconst (v := 0) hx hb dX6_isNear_33 (by decide) ?_
      exact hM_10 false _ _ _ (if_pos c_6).symm (lv_sub hl [] rfl) hP hD hS
    · refine lv_iconst (v := 1) hx hb dX6_isNear_29 (by decide) ?_
      refine lv_goto (tgt := 34) hx hb dX6_isNear_30 (by decide) ?_
      exact hM_10 true _ _ _ (if_neg c_6).symm (lv_sub hl [] rfl) hP hD hS
  refine nv_ge hx hb k o 14 (by omega) (by omega) dX6_isNear_2 (by decide) (fun c_1 => ?_) (fun c_1 => ?_)
  · refine lv_aload_n hx hb dX6_isNear_14 rfl (lv_at hl 0 rfl) ?_
    refine lv_iload_n hx hb dX6_isNear_15 rfl (lv_at hl 2 rfl) ?_
    refine lv_iload_n hx hb dX6_isNear_16 rfl (lv_at hl 1 rfl) ?_
    refine ct_callS (As := [.ref a, .int (nI o), .int (nI k)]) (rest := []) X hP hD hS hA (k_X6_gap l G cI cS cL a row o k (by omega) (by omega)) cq_X6_gap aw_957 ⟨Nat.le_of_ble_eq_true rfl, Nat.le_of_ble_eq_true rfl⟩ [0] (cs := [rwC a cI 129 row]) rfl (by decide) (cs' := [rwC a cI 129 row]) rfl rfl rfl hl.1 rfl (Nat.le_of_ble_eq_true rfl) dX6_isNear_17 ⟨Nat.zero_le _, Nat.zero_le _⟩ rfl (bs' := [rwC a cI 129 row]) rfl (fun H locs hP hD hS => ?_)
    exact hM_5 (f_X6_gap row o k) _ _ _ (if_pos c_1).symm (lv_sub hl [0] rfl) hP hD hS
  · refine lv_aload_n hx hb dX6_isNear_5 rfl (lv_at hl 0 rfl) ?_
    refine lv_iload_n hx hb dX6_isNear_6 rfl (lv_at hl 1 rfl) ?_
    refine lv_iload_n hx hb dX6_isNear_7 rfl (lv_at hl 2 rfl) ?_
    refine ct_callS (As := [.ref a, .int (nI k), .int (nI o)]) (rest := []) X hP hD hS hA (k_X6_gap l G cI cS cL a row k o (by omega) (by omega)) cq_X6_gap aw_957 ⟨Nat.le_of_ble_eq_true rfl, Nat.le_of_ble_eq_true rfl⟩ [0] (cs := [rwC a cI 129 row]) rfl (by decide) (cs' := [rwC a cI 129 row]) rfl rfl rfl hl.1 rfl (Nat.le_of_ble_eq_true rfl) dX6_isNear_8 ⟨Nat.zero_le _, Nat.zero_le _⟩ rfl (bs' := [rwC a cI 129 row]) rfl (fun H locs hP hD hS => ?_)
    refine lv_goto (tgt := 20) hx hb dX6_isNear_11 (by decide) ?_
    exact hM_5 (f_X6_gap row k o) _ _ _ (if_neg c_1).symm (lv_sub hl [0] rfl) hP hD hS
set_option maxRecDepth 100000 in
set_option maxHeartbeats 4000000 in
theorem k_X6_isLocked (l : Launch) (G : va_G) (cI cS cL : ClassId) (a : Nat) (row : Nat → Int32) (k : Nat) (o : Nat) (hk : k < 8) (ho : o < 8) : Ct l G (tyl cI cS cL) yX6_isLocked cX6_isLocked 3 (some (Jvm.ClassFile.FieldType.boolean)) 1 21 0 0 [.ref a, .int (nI k), .int (nI o)] [rwC a cI 129 row].flatten (f_X6_isLocked row k o) (fun u => some (.int (bI u))) (fun _ => [rwC a cI 129 row].flatten) := by
  refine Ct.of (by decide +kernel) (Nat.le_of_ble_eq_true rfl) ?_
  intro p e s m args below meth c A ls hx hb hr hml hw hown hlocks hin hK hN hP hD hS hA hl
  have hown : s.vm.findClass RX6 = some m.cls := hown
  have X : Cx p s m args c cX6_isLocked 3 RX6 G (tyl cI cS cL) := ⟨hx, hb, hml, hown, hw, hK, hN⟩
  have hP : va_P G classes [rwC a cI 129 row].flatten s.heap := hP
  have hl : lv_has ls 3 [(0, .ref a), (1, .int (nI k)), (2, .int (nI o))] := hl
  generalize hQQ : MQ below _ args s 0 0 A = QQ
  refine lv_iload_n hx hb dX6_isLocked_0 rfl (lv_at hl 1 rfl) ?_
  refine lv_iload_n hx hb dX6_isLocked_1 rfl (lv_at hl 2 rfl) ?_
  have hM_10 : ∀ (v_9 : Bool) (ls : Array Slot) (H : Heap) (locs : List Loc), v_9 = (if k = o then false else (if (row (f_X6_near k o)) < (row 5) then false else true)) → lv_has ls 3 [] → va_P G classes [rwC a cI 129 row].flatten H → va_D A [rwC a cI 129 row].flatten → va_S A s.heap H locs → W p l e ({ frames := 1, cells := 0, slots := 0, locals := 21 } : Room) s m args below meth c H locs 0 0 QQ (F0 m 23 ls [.int (bI v_9)]) := by
    intro v_9 ls H locs e_v_9 hl hP hD hS
    subst e_v_9
    rw [← hQQ]; exact W.zret (v := bI (if k = o then false else (if (row (f_X6_near k o)) < (row 5) then false else true))) hx hb hr (nar_b _) (ct_end (F := (f_X6_isLocked row k o)) (u := (if k = o then false else (if (row (f_X6_near k o)) < (row 5) then false else true))) (rf := (fun u => some (.int (bI u)))) (wf := (fun _ => [rwC a cI 129 row].flatten)) rfl rfl hP hD hS) hS.2.2 dX6_isLocked_23
  refine nv_eq hx hb k o 22 (by omega) (by omega) dX6_isLocked_2 (by decide) (fun c_1 => ?_) (fun c_1 => ?_)
  · refine lv_iconst (v := 0) hx hb dX6_isLocked_22 (by decide) ?_
    exact hM_10 false _ _ _ (if_pos c_1).symm (lv_sub hl [] rfl) hP hD hS
  · refine lv_aload_n hx hb dX6_isLocked_5 rfl (lv_at hl 0 rfl) ?_
    refine lv_iload_n hx hb dX6_isLocked_6 rfl (lv_at hl 1 rfl) ?_
    refine lv_iload_n hx hb dX6_isLocked_7 rfl (lv_at hl 2 rfl) ?_
    refine ct_callS (As := [.int (nI k), .int (nI o)]) (rest := [.ref a]) X hP hD hS hA (k_X6_near l G cI cS cL  k o (by omega) (by omega)) cq_X6_near aw_960 ⟨Nat.le_of_ble_eq_true rfl, Nat.le_of_ble_eq_true rfl⟩ ([] : List Nat) (cs := []) rfl (by decide) (cs' := []) rfl rfl rfl hl.1 rfl (Nat.le_of_ble_eq_true rfl) dX6_isLocked_8 ⟨Nat.zero_le _, Nat.zero_le _⟩ rfl (bs' := [rwC a cI 129 row]) rfl (fun H locs hP hD hS => ?_)
    refine nv_iald hx hb hK hP 0 0 rfl rfl (f_X6_near k o) (by first | omega | exact near_lt (by omega) (by omega)) (by decide) dX6_isLocked_11 ?_
    refine lv_aload_n hx hb dX6_isLocked_12 rfl (lv_at hl 0 rfl) ?_
    refine lv_iconst (v := 5) hx hb dX6_isLocked_13 (by decide) ?_
    refine nv_iald hx hb hK hP 0 0 rfl rfl 5 (by first | omega | exact near_lt (by omega) (by omega)) (by decide) dX6_isLocked_14 ?_
    have hM_7 : ∀ (v_6 : Bool) (ls : Array Slot) (H : Heap) (locs : List Loc), v_6 = (if (row (f_X6_near k o)) < (row 5) then false else true) → lv_has ls 3 [] → va_P G classes [rwC a cI 129 row].flatten H → va_D A [rwC a cI 129 row].flatten → va_S A s.heap H locs → W p l e ({ frames := 1, cells := 0, slots := 0, locals := 21 } : Room) s m args below meth c H locs 0 0 QQ (F0 m 23 ls [.int (bI v_6)]) := by
      intro v_6 ls H locs e_v_6 hl hP hD hS
      subst e_v_6
      exact hM_10 (if (row (f_X6_near k o)) < (row 5) then false else true) _ _ _ (if_neg c_1).symm (lv_sub hl [] rfl) hP hD hS
    refine lv_icmp_lt (tgt := 22) hx hb dX6_isLocked_15 (by decide) (fun c_3 => ?_) (fun c_3 => ?_)
    · refine lv_iconst (v := 0) hx hb dX6_isLocked_22 (by decide) ?_
      exact hM_7 false _ _ _ (if_pos c_3).symm (lv_sub hl [] rfl) hP hD hS
    · refine lv_iconst (v := 1) hx hb dX6_isLocked_18 (by decide) ?_
      refine lv_goto (tgt := 23) hx hb dX6_isLocked_19 (by decide) ?_
      exact hM_7 true _ _ _ (if_neg c_3).symm (lv_sub hl [] rfl) hP hD hS
set_option maxRecDepth 100000 in
set_option maxHeartbeats 4000000 in
theorem k_X6_tick (l : Launch) (G : va_G) (cI cS cL : ClassId) (q : Nat → Nat) (a : Nat) (refusal : Int32) (isShot : Bool) (states : Nat) (length : Nat) (at_ : Nat) (good : Bool) (runs : Bool) (did : Int32) (pulls : Nat → Int32) (row : Nat → Int32) (hI : InvB row) : Ct l G (tyl cI cS cL) yX6_tick cX6_tick 7 (some (Jvm.ClassFile.FieldType.int)) 3 66 0 0 [.ref (q 0), .ref a] [mdC q refusal isShot states length at_ good runs did, rwC (q 5) cI 8 pulls, rwC a cI 129 row].flatten (f_X6_tick pulls row) (fun u => some (.int u.1)) (fun u => [mdC q refusal isShot states length at_ good runs did, rwC (q 5) cI 8 u.2.1, rwC a cI 129 u.2.2].flatten) := by
  refine Ct.of (by decide +kernel) (Nat.le_of_ble_eq_true rfl) ?_
  intro p e s m args below meth c A ls hx hb hr hml hw hown hlocks hin hK hN hP hD hS hA hl
  have hown : s.vm.findClass RX6 = some m.cls := hown
  have X : Cx p s m args c cX6_tick 7 RX6 G (tyl cI cS cL) := ⟨hx, hb, hml, hown, hw, hK, hN⟩
  have hP : va_P G classes [mdC q refusal isShot states length at_ good runs did, rwC (q 5) cI 8 pulls, rwC a cI 129 row].flatten s.heap := hP
  have hl : lv_has ls 7 [(0, .ref (q 0)), (1, .ref a)] := hl
  generalize hQQ : MQ below _ args s 0 0 A = QQ
  refine lv_iconst (v := 0) hx hb dX6_tick_0 (by decide) ?_
  refine lv_istore_n (lv' := [(2, .int (0 : Int32)), (0, .ref (q 0)), (1, .ref a)]) hx hb dX6_tick_1 rfl hl (by decide) rfl (fun ls hl => ?_)
  refine lv_iconst (v := 0) hx hb dX6_tick_2 (by decide) ?_
  refine lv_istore_n (lv' := [(3, .int (0 : Int32)), (2, .int (0 : Int32)), (0, .ref (q 0)), (1, .ref a)]) hx hb dX6_tick_3 rfl hl (by decide) rfl (fun ls hl => ?_)
  refine it_loop (f := (L_X6_tick_4 row)) 8 (fun (i4 : Nat) (s4 : (Nat → Int32)) => ∀ (ls : Array Slot) (H : Heap) (locs : List Loc), lv_has ls 7 [(3, .int (nI i4)), (2, .int (0 : Int32)), (0, .ref (q 0)), (1, .ref a)] → va_P G classes [mdC q refusal isShot states length at_ good runs did, rwC (q 5) cI 8 s4, rwC a cI 129 row].flatten H → va_D A [mdC q refusal isShot states length at_ good runs did, rwC (q 5) cI 8 s4, rwC a cI 129 row].flatten → va_S A s.heap H locs → W p l e ({ frames := 3, cells := 0, slots := 0, locals := 66 } : Room) s m args below meth c H locs 0 0 QQ (F0 m 4 ls [])) (fun i4 s4 hi4 ih => ?_) 8 0 pulls (by omega) ?_ ls _ _ (lv_sub hl [0, 1, 2, 3] rfl) hP hD hS
  · intro ls H locs hl hP hD hS
    refine lv_iload_n hx hb dX6_tick_4 rfl (lv_at hl 0 rfl) ?_
    refine lv_bipush (v := 8) hx hb dX6_tick_5 (by decide) ?_
    refine nv_ge hx hb i4 8 27 (by omega) (by omega) dX6_tick_7 (by decide) (fun hc => absurd hc (by omega)) (fun _ => ?_)
    refine lv_aload_n hx hb dX6_tick_10 rfl (lv_at hl 2 rfl) ?_
    refine va_get (D := G) (ci := 4) (C := RX6) (T := TX6) (N := 15) hx hb hw in_X6 hown hK hP 0 rfl rfl 7 (by decide) (hw _ aw_878) (fun _ h9 => h9) rfl dX6_tick_11 ?_
    refine lv_iload_n hx hb dX6_tick_14 rfl (lv_at hl 0 rfl) ?_
    refine lv_aload_n hx hb dX6_tick_15 rfl (lv_at hl 3 rfl) ?_
    refine lv_iload_n hx hb dX6_tick_16 rfl (lv_at hl 0 rfl) ?_
    refine ct_callS (As := [.ref a, .int (nI i4)]) (rest := [.int (nI i4), .ref (q 5)]) X hP hD hS hA (k_X6_pull l G cI cS cL a row i4 (by omega) hI) cq_X6_pull aw_945 ⟨Nat.le_of_ble_eq_true rfl, Nat.le_of_ble_eq_true rfl⟩ [2] (cs := [rwC a cI 129 row]) rfl (by decide) (cs' := [rwC a cI 129 row]) rfl rfl rfl hl.1 rfl (Nat.le_of_ble_eq_true rfl) dX6_tick_17 ⟨Nat.zero_le _, Nat.zero_le _⟩ rfl (bs' := [mdC q refusal isShot states length at_ good runs did, rwC (q 5) cI 8 s4, rwC a cI 129 row]) rfl (fun H locs hP hD hS => ?_)
    refine nv_iast hx hb hK hP hD hS 1 0 rfl rfl i4 (by first | omega | exact near_lt (by omega) (by omega)) (by decide) dX6_tick_20 (ws' := [mdC q refusal isShot states length at_ good runs did, rwC (q 5) cI 8 (upd s4 i4 (f_X6_pull row i4)), rwC a cI 129 row].flatten) rfl (fun H locs hP hD hS => ?_)
    refine nv_iinc (k := 0) (lv' := [(3, .int (nI (i4 + 1))), (2, .int (0 : Int32)), (0, .ref (q 0)), (1, .ref a)]) hx hb i4 dX6_tick_21 hl rfl (by decide) rfl (fun ls hl => ?_)
    refine lv_goto (tgt := 4) hx hb dX6_tick_24 (by decide) ?_
    exact ih _ _ _ (lv_sub hl [0, 1, 2, 3] rfl) hP hD hS
  · intro ls H locs hl hP hD hS
    refine lv_iload_n hx hb dX6_tick_4 rfl (lv_at hl 0 rfl) ?_
    refine lv_bipush (v := 8) hx hb dX6_tick_5 (by decide) ?_
    refine nv_ge hx hb 8 8 27 (by omega) (by omega) dX6_tick_7 (by decide) (fun _ => ?_) (fun hc => absurd hc (by omega))
    refine lv_iconst (v := 0) hx hb dX6_tick_27 (by decide) ?_
    refine lv_istore_n (lv' := [(3, .int (0 : Int32)), (2, .int (0 : Int32)), (0, .ref (q 0)), (1, .ref a)]) hx hb dX6_tick_28 rfl hl (by decide) rfl (fun ls hl => ?_)
    refine it_loop (f := (L_X6_tick_29 pulls row)) 8 (fun (i29 : Nat) (s29 : Int32 × (Nat → Int32)) => ∀ (ls : Array Slot) (H : Heap) (locs : List Loc), lv_has ls 7 [(3, .int (nI i29)), (2, .int s29.1), (0, .ref (q 0)), (1, .ref a)] → va_P G classes [mdC q refusal isShot states length at_ good runs did, rwC (q 5) cI 8 (it (L_X6_tick_4 row) 0 8 pulls), rwC a cI 129 s29.2].flatten H → va_D A [mdC q refusal isShot states length at_ good runs did, rwC (q 5) cI 8 (it (L_X6_tick_4 row) 0 8 pulls), rwC a cI 129 s29.2].flatten → va_S A s.heap H locs → W p l e ({ frames := 3, cells := 0, slots := 0, locals := 66 } : Room) s m args below meth c H locs 0 0 QQ (F0 m 29 ls [])) (fun i29 s29 hi29 ih => ?_) 8 0 ((0 : Int32), row) (by omega) ?_ ls _ _ (lv_sub hl [0, 1, 2, 3] rfl) hP hD hS
    · intro ls H locs hl hP hD hS
      refine lv_iload_n hx hb dX6_tick_29 rfl (lv_at hl 0 rfl) ?_
      refine lv_bipush (v := 8) hx hb dX6_tick_30 (by decide) ?_
      refine nv_ge hx hb i29 8 152 (by omega) (by omega) dX6_tick_32 (by decide) (fun hc => absurd hc (by omega)) (fun _ => ?_)
      refine lv_iload_n hx hb dX6_tick_35 rfl (lv_at hl 0 rfl) ?_
      refine ct_callS (As := [.int (nI i29)]) (rest := []) X hP hD hS hA (k_X6_spot l G cI cS cL  i29) cq_X6_spot aw_951 ⟨Nat.le_of_ble_eq_true rfl, Nat.le_of_ble_eq_true rfl⟩ ([] : List Nat) (cs := []) rfl (by decide) (cs' := []) rfl rfl rfl hl.1 rfl (Nat.le_of_ble_eq_true rfl) dX6_tick_36 ⟨Nat.zero_le _, Nat.zero_le _⟩ rfl (bs' := [mdC q refusal isShot states length at_ good runs did, rwC (q 5) cI 8 (it (L_X6_tick_4 row) 0 8 pulls), rwC a cI 129 s29.2]) rfl (fun H locs hP hD hS => ?_)
      refine lv_istore (lv' := [(4, .int (nI (6 + (7 * i29)))), (3, .int (nI i29)), (2, .int s29.1), (0, .ref (q 0)), (1, .ref a)]) hx hb dX6_tick_39 hl (by decide) rfl (fun ls hl => ?_)
      refine lv_aload_n hx hb dX6_tick_41 rfl (lv_at hl 4 rfl) ?_
      refine lv_iload_n hx hb dX6_tick_42 rfl (lv_at hl 1 rfl) ?_
      refine ct_callS (As := [.ref a, .int (nI i29)]) (rest := []) X hP hD hS hA (k_X6_goes l G cI cS cL a s29.2 i29 (by omega)) cq_X6_goes aw_948 ⟨Nat.le_of_ble_eq_true rfl, Nat.le_of_ble_eq_true rfl⟩ [2] (cs := [rwC a cI 129 s29.2]) rfl (by decide) (cs' := [rwC a cI 129 s29.2]) rfl rfl rfl hl.1 rfl (Nat.le_of_ble_eq_true rfl) dX6_tick_43 ⟨Nat.zero_le _, Nat.zero_le _⟩ rfl (bs' := [mdC q refusal isShot states length at_ good runs did, rwC (q 5) cI 8 (it (L_X6_tick_4 row) 0 8 pulls), rwC a cI 129 s29.2]) rfl (fun H locs hP hD hS => ?_)
      refine bv_ifeq hx hb (f_X6_goes s29.2 i29) 146 dX6_tick_46 (by decide) (fun c_9 => ?_) (fun c_9 => ?_)
      · refine nv_iinc (k := 1) (lv' := [(3, .int (nI (i29 + 1))), (4, .int (nI (6 + (7 * i29)))), (2, .int s29.1), (0, .ref (q 0)), (1, .ref a)]) hx hb i29 dX6_tick_146 hl rfl (by decide) rfl (fun ls hl => ?_)
        refine lv_goto (tgt := 29) hx hb dX6_tick_149 (by decide) ?_
        rw [show (L_X6_tick_29 pulls row) i29 s29 = s29 from by first | (unfold L_X6_tick_29; rw [if_neg c_9]; first | done | rfl) | (unfold L_X6_tick_29; simp only [if_neg c_9])] at ih
        exact ih _ _ _ (lv_sub hl [0, 2, 3, 4] rfl) hP hD hS
      · refine lv_aload_n hx hb dX6_tick_49 rfl (lv_at hl 4 rfl) ?_
        refine lv_iload hx hb dX6_tick_50 (lv_at hl 0 rfl) ?_
        refine lv_iconst (v := 1) hx hb dX6_tick_52 (by decide) ?_
        refine nv_iadd hx hb (6 + (7 * i29)) 1 dX6_tick_53 ?_
        refine nv_iald hx hb hK hP 2 0 rfl rfl ((6 + (7 * i29)) + 1) (by first | omega | exact near_lt (by omega) (by omega)) (by decide) dX6_tick_54 ?_
        refine lv_aload_n hx hb dX6_tick_55 rfl (lv_at hl 3 rfl) ?_
        refine va_get (D := G) (ci := 4) (C := RX6) (T := TX6) (N := 15) hx hb hw in_X6 hown hK hP 0 rfl rfl 7 (by decide) (hw _ aw_878) (fun _ h9 => h9) rfl dX6_tick_56 ?_
        refine lv_iload_n hx hb dX6_tick_59 rfl (lv_at hl 1 rfl) ?_
        refine nv_iald hx hb hK hP 1 0 rfl rfl i29 (by first | omega | exact near_lt (by omega) (by omega)) (by decide) dX6_tick_60 ?_
        refine lv_iadd hx hb dX6_tick_61 ?_
        refine lv_istore (lv' := [(5, .int ((s29.2 ((6 + (7 * i29)) + 1)) + ((it (L_X6_tick_4 row) 0 8 pulls) i29))), (4, .int (nI (6 + (7 * i29)))), (3, .int (nI i29)), (2, .int s29.1), (0, .ref (q 0)), (1, .ref a)]) hx hb dX6_tick_62 hl (by decide) rfl (fun ls hl => ?_)
        refine lv_iload hx hb dX6_tick_64 (lv_at hl 0 rfl) ?_
        have hM_15 : ∀ (v_14 : Int32) (ls : Array Slot) (H : Heap) (locs : List Loc), v_14 = (if 0 ≤ ((s29.2 ((6 + (7 * i29)) + 1)) + ((it (L_X6_tick_4 row) 0 8 pulls) i29)) then ((s29.2 ((6 + (7 * i29)) + 1)) + ((it (L_X6_tick_4 row) 0 8 pulls) i29)) else (0 : Int32)) → lv_has ls 7 [(4, .int (nI (6 + (7 * i29)))), (3, .int (nI i29)), (2, .int s29.1), (0, .ref (q 0)), (1, .ref a)] → va_P G classes [mdC q refusal isShot states length at_ good runs did, rwC (q 5) cI 8 (it (L_X6_tick_4 row) 0 8 pulls), rwC a cI 129 s29.2].flatten H → va_D A [mdC q refusal isShot states length at_ good runs did, rwC (q 5) cI 8 (it (L_X6_tick_4 row) 0 8 pulls), rwC a cI 129 s29.2].flatten → va_S A s.heap H locs → W p l e ({ frames := 3, cells := 0, slots := 0, locals := 66 } : Room) s m args below meth c H locs 0 0 QQ (F0 m 75 ls [.int v_14]) := by
          intro v_14 ls H locs e_v_14 hl hP hD hS
          subst e_v_14
          refine lv_istore (lv' := [(5, .int (if 0 ≤ ((s29.2 ((6 + (7 * i29)) + 1)) + ((it (L_X6_tick_4 row) 0 8 pulls) i29)) then ((s29.2 ((6 + (7 * i29)) + 1)) + ((it (L_X6_tick_4 row) 0 8 pulls) i29)) else (0 : Int32))), (4, .int (nI (6 + (7 * i29)))), (3, .int (nI i29)), (2, .int s29.1), (0, .ref (q 0)), (1, .ref a)]) hx hb dX6_tick_75 hl (by decide) rfl (fun ls hl => ?_)
          obtain ⟨x77_5, e_x77_5⟩ : ∃ x77_5 : Int32, x77_5 = (if 0 ≤ ((s29.2 ((6 + (7 * i29)) + 1)) + ((it (L_X6_tick_4 row) 0 8 pulls) i29)) then ((s29.2 ((6 + (7 * i29)) + 1)) + ((it (L_X6_tick_4 row) 0 8 pulls) i29)) else (0 : Int32)) := ⟨_, rfl⟩
          have hl : lv_has ls 7 [(5, .int x77_5), (4, .int (nI (6 + (7 * i29)))), (3, .int (nI i29)), (2, .int s29.1), (0, .ref (q 0)), (1, .ref a)] := by rw [e_x77_5]; exact hl
          refine lv_aload_n hx hb dX6_tick_77 rfl (lv_at hl 5 rfl) ?_
          refine lv_iload hx hb dX6_tick_78 (lv_at hl 1 rfl) ?_
          refine lv_iconst (v := 2) hx hb dX6_tick_80 (by decide) ?_
          refine nv_iadd hx hb (6 + (7 * i29)) 2 dX6_tick_81 ?_
          refine lv_dup2_11 hx hb dX6_tick_82 rfl rfl ?_
          refine nv_iald hx hb hK hP 2 0 rfl rfl ((6 + (7 * i29)) + 2) (by first | omega | exact near_lt (by omega) (by omega)) (by decide) dX6_tick_83 ?_
          refine lv_iload hx hb dX6_tick_84 (lv_at hl 0 rfl) ?_
          refine lv_iadd hx hb dX6_tick_86 ?_
          refine nv_iast hx hb hK hP hD hS 2 0 rfl rfl ((6 + (7 * i29)) + 2) (by first | omega | exact near_lt (by omega) (by omega)) (by decide) dX6_tick_87 (ws' := [mdC q refusal isShot states length at_ good runs did, rwC (q 5) cI 8 (it (L_X6_tick_4 row) 0 8 pulls), rwC a cI 129 (upd s29.2 ((6 + (7 * i29)) + 2) ((s29.2 ((6 + (7 * i29)) + 2)) + x77_5))].flatten) rfl (fun H locs hP hD hS => ?_)
          obtain ⟨x88_row, e_x88_row⟩ : ∃ x88_row : Nat → Int32, x88_row = (upd s29.2 ((6 + (7 * i29)) + 2) ((s29.2 ((6 + (7 * i29)) + 2)) + x77_5)) := ⟨_, rfl⟩
          have hP : va_P G classes [mdC q refusal isShot states length at_ good runs did, rwC (q 5) cI 8 (it (L_X6_tick_4 row) 0 8 pulls), rwC a cI 129 x88_row].flatten H := by rw [e_x88_row]; exact hP
          have hD : va_D A [mdC q refusal isShot states length at_ good runs did, rwC (q 5) cI 8 (it (L_X6_tick_4 row) 0 8 pulls), rwC a cI 129 x88_row].flatten := by rw [e_x88_row]; exact hD
          refine lv_aload_n hx hb dX6_tick_88 rfl (lv_at hl 5 rfl) ?_
          refine lv_iload hx hb dX6_tick_89 (lv_at hl 1 rfl) ?_
          refine lv_iconst (v := 5) hx hb dX6_tick_91 (by decide) ?_
          refine nv_iadd hx hb (6 + (7 * i29)) 5 dX6_tick_92 ?_
          refine lv_dup2_11 hx hb dX6_tick_93 rfl rfl ?_
          refine nv_iald hx hb hK hP 2 0 rfl rfl ((6 + (7 * i29)) + 5) (by first | omega | exact near_lt (by omega) (by omega)) (by decide) dX6_tick_94 ?_
          refine lv_iload hx hb dX6_tick_95 (lv_at hl 0 rfl) ?_
          refine lv_iadd hx hb dX6_tick_97 ?_
          refine nv_iast hx hb hK hP hD hS 2 0 rfl rfl ((6 + (7 * i29)) + 5) (by first | omega | exact near_lt (by omega) (by omega)) (by decide) dX6_tick_98 (ws' := [mdC q refusal isShot states length at_ good runs did, rwC (q 5) cI 8 (it (L_X6_tick_4 row) 0 8 pulls), rwC a cI 129 (upd x88_row ((6 + (7 * i29)) + 5) ((x88_row ((6 + (7 * i29)) + 5)) + x77_5))].flatten) rfl (fun H locs hP hD hS => ?_)
          obtain ⟨x99_row, e_x99_row⟩ : ∃ x99_row : Nat → Int32, x99_row = (upd x88_row ((6 + (7 * i29)) + 5) ((x88_row ((6 + (7 * i29)) + 5)) + x77_5)) := ⟨_, rfl⟩
          have hP : va_P G classes [mdC q refusal isShot states length at_ good runs did, rwC (q 5) cI 8 (it (L_X6_tick_4 row) 0 8 pulls), rwC a cI 129 x99_row].flatten H := by rw [e_x99_row]; exact hP
          have hD : va_D A [mdC q refusal isShot states length at_ good runs did, rwC (q 5) cI 8 (it (L_X6_tick_4 row) 0 8 pulls), rwC a cI 129 x99_row].flatten := by rw [e_x99_row]; exact hD
          refine lv_aload_n hx hb dX6_tick_99 rfl (lv_at hl 5 rfl) ?_
          refine lv_iload hx hb dX6_tick_100 (lv_at hl 1 rfl) ?_
          refine lv_iconst (v := 2) hx hb dX6_tick_102 (by decide) ?_
          refine nv_iadd hx hb (6 + (7 * i29)) 2 dX6_tick_103 ?_
          refine nv_iald hx hb hK hP 2 0 rfl rfl ((6 + (7 * i29)) + 2) (by first | omega | exact near_lt (by omega) (by omega)) (by decide) dX6_tick_104 ?_
          refine lv_sipush (v := 1000) hx hb dX6_tick_105 (by decide) ?_
          refine lv_icmp_lt (tgt := 146) hx hb dX6_tick_108 (by decide) (fun c_16 => ?_) (fun c_16 => ?_)
          · refine nv_iinc (k := 2) (lv' := [(3, .int (nI (i29 + 1))), (5, .int x77_5), (4, .int (nI (6 + (7 * i29)))), (2, .int s29.1), (0, .ref (q 0)), (1, .ref a)]) hx hb i29 dX6_tick_146 hl rfl (by decide) rfl (fun ls hl => ?_)
            refine lv_goto (tgt := 29) hx hb dX6_tick_149 (by decide) ?_
            rw [show (L_X6_tick_29 pulls row) i29 s29 = (s29.1, x99_row) from by first | (subst e_x77_5 e_x88_row e_x99_row; unfold L_X6_tick_29; rw [if_pos c_9]; unfold C_X6_tick_77; unfold C_X6_tick_88; unfold C_X6_tick_99; rw [if_pos c_16]; first | done | rfl) | (subst e_x77_5 e_x88_row e_x99_row; unfold L_X6_tick_29 C_X6_tick_77 C_X6_tick_88 C_X6_tick_99; simp only [if_pos c_9, if_pos c_16])] at ih
            exact ih _ _ _ (lv_sub hl [0, 3, 4, 5] rfl) hP hD hS
          · refine lv_aload_n hx hb dX6_tick_111 rfl (lv_at hl 5 rfl) ?_
            refine lv_iload hx hb dX6_tick_112 (lv_at hl 1 rfl) ?_
            refine lv_iconst (v := 2) hx hb dX6_tick_114 (by decide) ?_
            refine nv_iadd hx hb (6 + (7 * i29)) 2 dX6_tick_115 ?_
            refine lv_dup2_11 hx hb dX6_tick_116 rfl rfl ?_
            refine nv_iald hx hb hK hP 2 0 rfl rfl ((6 + (7 * i29)) + 2) (by first | omega | exact near_lt (by omega) (by omega)) (by decide) dX6_tick_117 ?_
            refine lv_sipush (v := 1000) hx hb dX6_tick_118 (by decide) ?_
            refine lv_isub hx hb dX6_tick_121 ?_
            refine nv_iast hx hb hK hP hD hS 2 0 rfl rfl ((6 + (7 * i29)) + 2) (by first | omega | exact near_lt (by omega) (by omega)) (by decide) dX6_tick_122 (ws' := [mdC q refusal isShot states length at_ good runs did, rwC (q 5) cI 8 (it (L_X6_tick_4 row) 0 8 pulls), rwC a cI 129 (upd x99_row ((6 + (7 * i29)) + 2) ((x99_row ((6 + (7 * i29)) + 2)) - (1000 : Int32)))].flatten) rfl (fun H locs hP hD hS => ?_)
            refine lv_aload_n hx hb dX6_tick_123 rfl (lv_at hl 5 rfl) ?_
            refine lv_iload hx hb dX6_tick_124 (lv_at hl 1 rfl) ?_
            refine lv_iconst (v := 3) hx hb dX6_tick_126 (by decide) ?_
            refine nv_iadd hx hb (6 + (7 * i29)) 3 dX6_tick_127 ?_
            refine lv_dup2_11 hx hb dX6_tick_128 rfl rfl ?_
            refine nv_iald hx hb hK hP 2 0 rfl rfl ((6 + (7 * i29)) + 3) (by first | omega | exact near_lt (by omega) (by omega)) (by decide) dX6_tick_129 ?_
            refine lv_iconst (v := 1) hx hb dX6_tick_130 (by decide) ?_
            refine lv_isub hx hb dX6_tick_131 ?_
            refine nv_iast hx hb hK hP hD hS 2 0 rfl rfl ((6 + (7 * i29)) + 3) (by first | omega | exact near_lt (by omega) (by omega)) (by decide) dX6_tick_132 (ws' := [mdC q refusal isShot states length at_ good runs did, rwC (q 5) cI 8 (it (L_X6_tick_4 row) 0 8 pulls), rwC a cI 129 (upd (upd x99_row ((6 + (7 * i29)) + 2) ((x99_row ((6 + (7 * i29)) + 2)) - (1000 : Int32))) ((6 + (7 * i29)) + 3) (((upd x99_row ((6 + (7 * i29)) + 2) ((x99_row ((6 + (7 * i29)) + 2)) - (1000 : Int32))) ((6 + (7 * i29)) + 3)) - (1 : Int32)))].flatten) rfl (fun H locs hP hD hS => ?_)
            refine lv_aload_n hx hb dX6_tick_133 rfl (lv_at hl 5 rfl) ?_
            refine lv_iload hx hb dX6_tick_134 (lv_at hl 1 rfl) ?_
            refine lv_iconst (v := 4) hx hb dX6_tick_136 (by decide) ?_
            refine nv_iadd hx hb (6 + (7 * i29)) 4 dX6_tick_137 ?_
            refine lv_dup2_11 hx hb dX6_tick_138 rfl rfl ?_
            refine nv_iald hx hb hK hP 2 0 rfl rfl ((6 + (7 * i29)) + 4) (by first | omega | exact near_lt (by omega) (by omega)) (by decide) dX6_tick_139 ?_
            refine lv_iconst (v := 1) hx hb dX6_tick_140 (by decide) ?_
            refine lv_iadd hx hb dX6_tick_141 ?_
            refine nv_iast hx hb hK hP hD hS 2 0 rfl rfl ((6 + (7 * i29)) + 4) (by first | omega | exact near_lt (by omega) (by omega)) (by decide) dX6_tick_142 (ws' := [mdC q refusal isShot states length at_ good runs did, rwC (q 5) cI 8 (it (L_X6_tick_4 row) 0 8 pulls), rwC a cI 129 (upd (upd (upd x99_row ((6 + (7 * i29)) + 2) ((x99_row ((6 + (7 * i29)) + 2)) - (1000 : Int32))) ((6 + (7 * i29)) + 3) (((upd x99_row ((6 + (7 * i29)) + 2) ((x99_row ((6 + (7 * i29)) + 2)) - (1000 : Int32))) ((6 + (7 * i29)) + 3)) - (1 : Int32))) ((6 + (7 * i29)) + 4) (((upd (upd x99_row ((6 + (7 * i29)) + 2) ((x99_row ((6 + (7 * i29)) + 2)) - (1000 : Int32))) ((6 + (7 * i29)) + 3) (((upd x99_row ((6 + (7 * i29)) + 2) ((x99_row ((6 + (7 * i29)) + 2)) - (1000 : Int32))) ((6 + (7 * i29)) + 3)) - (1 : Int32))) ((6 + (7 * i29)) + 4)) + (1 : Int32)))].flatten) rfl (fun H locs hP hD hS => ?_)
            refine lv_iinc (v := (s29.1 + (1 : Int32))) (k := 3) (lv' := [(2, .int (s29.1 + (1 : Int32))), (5, .int x77_5), (4, .int (nI (6 + (7 * i29)))), (3, .int (nI i29)), (0, .ref (q 0)), (1, .ref a)]) hx hb dX6_tick_143 hl rfl rfl (by decide) rfl (fun ls hl => ?_)
            refine nv_iinc (k := 3) (lv' := [(3, .int (nI (i29 + 1))), (2, .int (s29.1 + (1 : Int32))), (5, .int x77_5), (4, .int (nI (6 + (7 * i29)))), (0, .ref (q 0)), (1, .ref a)]) hx hb i29 dX6_tick_146 hl rfl (by decide) rfl (fun ls hl => ?_)
            refine lv_goto (tgt := 29) hx hb dX6_tick_149 (by decide) ?_
            rw [show (L_X6_tick_29 pulls row) i29 s29 = ((s29.1 + (1 : Int32)), (upd (upd (upd x99_row ((6 + (7 * i29)) + 2) ((x99_row ((6 + (7 * i29)) + 2)) - (1000 : Int32))) ((6 + (7 * i29)) + 3) (((upd x99_row ((6 + (7 * i29)) + 2) ((x99_row ((6 + (7 * i29)) + 2)) - (1000 : Int32))) ((6 + (7 * i29)) + 3)) - (1 : Int32))) ((6 + (7 * i29)) + 4) (((upd (upd x99_row ((6 + (7 * i29)) + 2) ((x99_row ((6 + (7 * i29)) + 2)) - (1000 : Int32))) ((6 + (7 * i29)) + 3) (((upd x99_row ((6 + (7 * i29)) + 2) ((x99_row ((6 + (7 * i29)) + 2)) - (1000 : Int32))) ((6 + (7 * i29)) + 3)) - (1 : Int32))) ((6 + (7 * i29)) + 4)) + (1 : Int32)))) from by first | (subst e_x77_5 e_x88_row e_x99_row; unfold L_X6_tick_29; rw [if_pos c_9]; unfold C_X6_tick_77; unfold C_X6_tick_88; unfold C_X6_tick_99; rw [if_neg c_16]; first | done | rfl) | (subst e_x77_5 e_x88_row e_x99_row; unfold L_X6_tick_29 C_X6_tick_77 C_X6_tick_88 C_X6_tick_99; simp only [if_pos c_9, if_neg c_16])] at ih
            exact ih _ _ _ (lv_sub hl [0, 1, 4, 5] rfl) hP hD hS
        refine lv_if_ge (tgt := 73) hx hb dX6_tick_66 (by decide) (fun c_11 => ?_) (fun c_11 => ?_)
        · refine lv_iload hx hb dX6_tick_73 (lv_at hl 0 rfl) ?_
          exact hM_15 ((s29.2 ((6 + (7 * i29)) + 1)) + ((it (L_X6_tick_4 row) 0 8 pulls) i29)) _ _ _ (if_pos c_11).symm (lv_sub hl [1, 2, 3, 4, 5] rfl) hP hD hS
        · refine lv_iconst (v := 0) hx hb dX6_tick_69 (by decide) ?_
          refine lv_goto (tgt := 75) hx hb dX6_tick_70 (by decide) ?_
          exact hM_15 (0 : Int32) _ _ _ (if_neg c_11).symm (lv_sub hl [1, 2, 3, 4, 5] rfl) hP hD hS
    · intro ls H locs hl hP hD hS
      refine lv_iload_n hx hb dX6_tick_29 rfl (lv_at hl 0 rfl) ?_
      refine lv_bipush (v := 8) hx hb dX6_tick_30 (by decide) ?_
      refine nv_ge hx hb 8 8 152 (by omega) (by omega) dX6_tick_32 (by decide) (fun _ => ?_) (fun hc => absurd hc (by omega))
      refine lv_iconst (v := 0) hx hb dX6_tick_152 (by decide) ?_
      refine lv_istore_n (lv' := [(3, .int (0 : Int32)), (2, .int ((it (L_X6_tick_29 pulls row) 0 8 ((0 : Int32), row)).1)), (0, .ref (q 0)), (1, .ref a)]) hx hb dX6_tick_153 rfl hl (by decide) rfl (fun ls hl => ?_)
      refine it_loop (f := L_X6_tick_154) 8 (fun (i154 : Nat) (s154 : (Nat → Int32)) => ∀ (ls : Array Slot) (H : Heap) (locs : List Loc), lv_has ls 7 [(3, .int (nI i154)), (2, .int ((it (L_X6_tick_29 pulls row) 0 8 ((0 : Int32), row)).1)), (1, .ref a)] → va_P G classes [mdC q refusal isShot states length at_ good runs did, rwC (q 5) cI 8 (it (L_X6_tick_4 row) 0 8 pulls), rwC a cI 129 s154].flatten H → va_D A [mdC q refusal isShot states length at_ good runs did, rwC (q 5) cI 8 (it (L_X6_tick_4 row) 0 8 pulls), rwC a cI 129 s154].flatten → va_S A s.heap H locs → W p l e ({ frames := 3, cells := 0, slots := 0, locals := 66 } : Room) s m args below meth c H locs 0 0 QQ (F0 m 154 ls [])) (fun i154 s154 hi154 ih => ?_) 8 0 (it (L_X6_tick_29 pulls row) 0 8 ((0 : Int32), row)).2 (by omega) ?_ ls _ _ (lv_sub hl [0, 1, 3] rfl) hP hD hS
      · intro ls H locs hl hP hD hS
        refine lv_iload_n hx hb dX6_tick_154 rfl (lv_at hl 0 rfl) ?_
        refine lv_bipush (v := 8) hx hb dX6_tick_155 (by decide) ?_
        refine nv_ge hx hb i154 8 259 (by omega) (by omega) dX6_tick_157 (by decide) (fun hc => absurd hc (by omega)) (fun _ => ?_)
        refine lv_iload_n hx hb dX6_tick_160 rfl (lv_at hl 0 rfl) ?_
        refine lv_iconst (v := 1) hx hb dX6_tick_161 (by decide) ?_
        refine nv_iadd hx hb i154 1 dX6_tick_162 ?_
        refine lv_istore (lv' := [(4, .int (nI (i154 + 1))), (3, .int (nI i154)), (2, .int ((it (L_X6_tick_29 pulls row) 0 8 ((0 : Int32), row)).1)), (1, .ref a)]) hx hb dX6_tick_163 hl (by decide) rfl (fun ls hl => ?_)
        refine it_loop (f := (L_X6_tick_165 i154)) 8 (fun (i165 : Nat) (s165 : (Nat → Int32)) => ∀ (ls : Array Slot) (H : Heap) (locs : List Loc), lv_has ls 7 [(4, .int (nI i165)), (3, .int (nI i154)), (2, .int ((it (L_X6_tick_29 pulls row) 0 8 ((0 : Int32), row)).1)), (1, .ref a)] → va_P G classes [mdC q refusal isShot states length at_ good runs did, rwC (q 5) cI 8 (it (L_X6_tick_4 row) 0 8 pulls), rwC a cI 129 s165].flatten H → va_D A [mdC q refusal isShot states length at_ good runs did, rwC (q 5) cI 8 (it (L_X6_tick_4 row) 0 8 pulls), rwC a cI 129 s165].flatten → va_S A s.heap H locs → W p l e ({ frames := 3, cells := 0, slots := 0, locals := 66 } : Room) s m args below meth c H locs 0 0 QQ (F0 m 165 ls [])) (fun i165 s165 hi165 ih => ?_) (8 - (i154 + 1)) (i154 + 1) s154 (by omega) ?_ ls _ _ (lv_sub hl [0, 1, 2, 3] rfl) hP hD hS
        · intro ls H locs hl hP hD hS
          refine lv_iload hx hb dX6_tick_165 (lv_at hl 0 rfl) ?_
          refine lv_bipush (v := 8) hx hb dX6_tick_167 (by decide) ?_
          refine nv_ge hx hb i165 8 253 (by omega) (by omega) dX6_tick_169 (by decide) (fun hc => absurd hc (by omega)) (fun _ => ?_)
          refine lv_aload_n hx hb dX6_tick_172 rfl (lv_at hl 3 rfl) ?_
          refine lv_iload_n hx hb dX6_tick_173 rfl (lv_at hl 1 rfl) ?_
          refine ct_callS (As := [.ref a, .int (nI i154)]) (rest := []) X hP hD hS hA (k_X6_goes l G cI cS cL a s165 i154 (by omega)) cq_X6_goes aw_948 ⟨Nat.le_of_ble_eq_true rfl, Nat.le_of_ble_eq_true rfl⟩ [2] (cs := [rwC a cI 129 s165]) rfl (by decide) (cs' := [rwC a cI 129 s165]) rfl rfl rfl hl.1 rfl (Nat.le_of_ble_eq_true rfl) dX6_tick_174 ⟨Nat.zero_le _, Nat.zero_le _⟩ rfl (bs' := [mdC q refusal isShot states length at_ good runs did, rwC (q 5) cI 8 (it (L_X6_tick_4 row) 0 8 pulls), rwC a cI 129 s165]) rfl (fun H locs hP hD hS => ?_)
          have hM_42 : ∀ (v_41 : Bool) (ls : Array Slot) (H : Heap) (locs : List Loc), v_41 = (if (f_X6_goes s165 i154) = true then (if (f_X6_goes s165 i165) = true then (if (f_X6_beamOf s165 i154) = (f_X6_beamOf s165 i165) then true else false) else false) else false) → lv_has ls 7 [(4, .int (nI i165)), (3, .int (nI i154)), (2, .int ((it (L_X6_tick_29 pulls row) 0 8 ((0 : Int32), row)).1)), (1, .ref a)] → va_P G classes [mdC q refusal isShot states length at_ good runs did, rwC (q 5) cI 8 (it (L_X6_tick_4 row) 0 8 pulls), rwC a cI 129 s165].flatten H → va_D A [mdC q refusal isShot states length at_ good runs did, rwC (q 5) cI 8 (it (L_X6_tick_4 row) 0 8 pulls), rwC a cI 129 s165].flatten → va_S A s.heap H locs → W p l e ({ frames := 3, cells := 0, slots := 0, locals := 66 } : Room) s m args below meth c H locs 0 0 QQ (F0 m 208 ls [.int (bI v_41)]) := by
            intro v_41 ls H locs e_v_41 hl hP hD hS
            subst e_v_41
            refine lv_istore (lv' := [(5, .int (bI (if (f_X6_goes s165 i154) = true then (if (f_X6_goes s165 i165) = true then (if (f_X6_beamOf s165 i154) = (f_X6_beamOf s165 i165) then true else false) else false) else false))), (4, .int (nI i165)), (3, .int (nI i154)), (2, .int ((it (L_X6_tick_29 pulls row) 0 8 ((0 : Int32), row)).1)), (1, .ref a)]) hx hb dX6_tick_208 hl (by decide) rfl (fun ls hl => ?_)
            refine lv_iload_n hx hb dX6_tick_210 rfl (lv_at hl 2 rfl) ?_
            refine lv_iload hx hb dX6_tick_211 (lv_at hl 1 rfl) ?_
            refine ct_callS (As := [.int (nI i154), .int (nI i165)]) (rest := []) X hP hD hS hA (k_X6_near l G cI cS cL  i154 i165 (by omega) (by omega)) cq_X6_near aw_960 ⟨Nat.le_of_ble_eq_true rfl, Nat.le_of_ble_eq_true rfl⟩ ([] : List Nat) (cs := []) rfl (by decide) (cs' := []) rfl rfl rfl hl.1 rfl (Nat.le_of_ble_eq_true rfl) dX6_tick_213 ⟨Nat.zero_le _, Nat.zero_le _⟩ rfl (bs' := [mdC q refusal isShot states length at_ good runs did, rwC (q 5) cI 8 (it (L_X6_tick_4 row) 0 8 pulls), rwC a cI 129 s165]) rfl (fun H locs hP hD hS => ?_)
            refine lv_istore (lv' := [(6, .int (nI (f_X6_near i154 i165))), (5, .int (bI (if (f_X6_goes s165 i154) = true then (if (f_X6_goes s165 i165) = true then (if (f_X6_beamOf s165 i154) = (f_X6_beamOf s165 i165) then true else false) else false) else false))), (4, .int (nI i165)), (3, .int (nI i154)), (2, .int ((it (L_X6_tick_29 pulls row) 0 8 ((0 : Int32), row)).1)), (1, .ref a)]) hx hb dX6_tick_216 hl (by decide) rfl (fun ls hl => ?_)
            refine lv_aload_n hx hb dX6_tick_218 rfl (lv_at hl 5 rfl) ?_
            refine lv_iload hx hb dX6_tick_219 (lv_at hl 0 rfl) ?_
            refine lv_iload hx hb dX6_tick_221 (lv_at hl 1 rfl) ?_
            have hM_52 : ∀ (v_51 : Int32) (ls : Array Slot) (H : Heap) (locs : List Loc), v_51 = (if (if (f_X6_goes s165 i154) = true then (if (f_X6_goes s165 i165) = true then (if (f_X6_beamOf s165 i154) = (f_X6_beamOf s165 i165) then true else false) else false) else false) = true then (if (f_X6_isNear s165 i154 i165) = true then ((s165 (f_X6_near i154 i165)) + (1 : Int32)) else (0 : Int32)) else (0 : Int32)) → lv_has ls 7 [(4, .int (nI i165)), (3, .int (nI i154)), (2, .int ((it (L_X6_tick_29 pulls row) 0 8 ((0 : Int32), row)).1)), (1, .ref a)] → va_P G classes [mdC q refusal isShot states length at_ good runs did, rwC (q 5) cI 8 (it (L_X6_tick_4 row) 0 8 pulls), rwC a cI 129 s165].flatten H → va_D A [mdC q refusal isShot states length at_ good runs did, rwC (q 5) cI 8 (it (L_X6_tick_4 row) 0 8 pulls), rwC a cI 129 s165].flatten → va_S A s.heap H locs → W p l e ({ frames := 3, cells := 0, slots := 0, locals := 66 } : Room) s m args below meth c H locs 0 0 QQ (F0 m 246 ls [.int v_51, .int (nI (f_X6_near i154 i165)), .ref a]) := by
              intro v_51 ls H locs e_v_51 hl hP hD hS
              subst e_v_51
              refine nv_iast hx hb hK hP hD hS 2 0 rfl rfl (f_X6_near i154 i165) (by first | omega | exact near_lt (by omega) (by omega)) (by decide) dX6_tick_246 (ws' := [mdC q refusal isShot states length at_ good runs did, rwC (q 5) cI 8 (it (L_X6_tick_4 row) 0 8 pulls), rwC a cI 129 (upd s165 (f_X6_near i154 i165) (if (if (f_X6_goes s165 i154) = true then (if (f_X6_goes s165 i165) = true then (if (f_X6_beamOf s165 i154) = (f_X6_beamOf s165 i165) then true else false) else false) else false) = true then (if (f_X6_isNear s165 i154 i165) = true then ((s165 (f_X6_near i154 i165)) + (1 : Int32)) else (0 : Int32)) else (0 : Int32)))].flatten) rfl (fun H locs hP hD hS => ?_)
              refine nv_iinc (k := 0) (lv' := [(4, .int (nI (i165 + 1))), (3, .int (nI i154)), (2, .int ((it (L_X6_tick_29 pulls row) 0 8 ((0 : Int32), row)).1)), (1, .ref a)]) hx hb i165 dX6_tick_247 hl rfl (by decide) rfl (fun ls hl => ?_)
              refine lv_goto (tgt := 165) hx hb dX6_tick_250 (by decide) ?_
              exact ih _ _ _ (lv_sub hl [0, 1, 2, 3] rfl) hP hD hS
            refine bv_ifeq hx hb (if (f_X6_goes s165 i154) = true then (if (f_X6_goes s165 i165) = true then (if (f_X6_beamOf s165 i154) = (f_X6_beamOf s165 i165) then true else false) else false) else false) 245 dX6_tick_223 (by decide) (fun c_43 => ?_) (fun c_43 => ?_)
            · refine lv_iconst (v := 0) hx hb dX6_tick_245 (by decide) ?_
              exact hM_52 (0 : Int32) _ _ _ (if_neg c_43).symm (lv_sub hl [2, 3, 4, 5] rfl) hP hD hS
            · refine lv_aload_n hx hb dX6_tick_226 rfl (lv_at hl 5 rfl) ?_
              refine lv_iload_n hx hb dX6_tick_227 rfl (lv_at hl 3 rfl) ?_
              refine lv_iload hx hb dX6_tick_228 (lv_at hl 2 rfl) ?_
              refine ct_callS (As := [.ref a, .int (nI i154), .int (nI i165)]) (rest := [.int (nI (f_X6_near i154 i165)), .ref a]) X hP hD hS hA (k_X6_isNear l G cI cS cL a s165 i154 i165 (by omega) (by omega)) cq_X6_isNear aw_963 ⟨Nat.le_of_ble_eq_true rfl, Nat.le_of_ble_eq_true rfl⟩ [2] (cs := [rwC a cI 129 s165]) rfl (by decide) (cs' := [rwC a cI 129 s165]) rfl rfl rfl hl.1 rfl (Nat.le_of_ble_eq_true rfl) dX6_tick_230 ⟨Nat.zero_le _, Nat.zero_le _⟩ rfl (bs' := [mdC q refusal isShot states length at_ good runs did, rwC (q 5) cI 8 (it (L_X6_tick_4 row) 0 8 pulls), rwC a cI 129 s165]) rfl (fun H locs hP hD hS => ?_)
              have hM_49 : ∀ (v_48 : Int32) (ls : Array Slot) (H : Heap) (locs : List Loc), v_48 = (if (f_X6_isNear s165 i154 i165) = true then ((s165 (f_X6_near i154 i165)) + (1 : Int32)) else (0 : Int32)) → lv_has ls 7 [(4, .int (nI i165)), (3, .int (nI i154)), (2, .int ((it (L_X6_tick_29 pulls row) 0 8 ((0 : Int32), row)).1)), (1, .ref a)] → va_P G classes [mdC q refusal isShot states length at_ good runs did, rwC (q 5) cI 8 (it (L_X6_tick_4 row) 0 8 pulls), rwC a cI 129 s165].flatten H → va_D A [mdC q refusal isShot states length at_ good runs did, rwC (q 5) cI 8 (it (L_X6_tick_4 row) 0 8 pulls), rwC a cI 129 s165].flatten → va_S A s.heap H locs → W p l e ({ frames := 3, cells := 0, slots := 0, locals := 66 } : Room) s m args below meth c H locs 0 0 QQ (F0 m 246 ls [.int v_48, .int (nI (f_X6_near i154 i165)), .ref a]) := by
                intro v_48 ls H locs e_v_48 hl hP hD hS
                subst e_v_48
                exact hM_52 (if (f_X6_isNear s165 i154 i165) = true then ((s165 (f_X6_near i154 i165)) + (1 : Int32)) else (0 : Int32)) _ _ _ (if_pos c_43).symm (lv_sub hl [0, 1, 2, 3] rfl) hP hD hS
              refine bv_ifeq hx hb (f_X6_isNear s165 i154 i165) 245 dX6_tick_233 (by decide) (fun c_45 => ?_) (fun c_45 => ?_)
              · refine lv_iconst (v := 0) hx hb dX6_tick_245 (by decide) ?_
                exact hM_49 (0 : Int32) _ _ _ (if_neg c_45).symm (lv_sub hl [2, 3, 4, 5] rfl) hP hD hS
              · refine lv_aload_n hx hb dX6_tick_236 rfl (lv_at hl 5 rfl) ?_
                refine lv_iload hx hb dX6_tick_237 (lv_at hl 0 rfl) ?_
                refine nv_iald hx hb hK hP 2 0 rfl rfl (f_X6_near i154 i165) (by first | omega | exact near_lt (by omega) (by omega)) (by decide) dX6_tick_239 ?_
                refine lv_iconst (v := 1) hx hb dX6_tick_240 (by decide) ?_
                refine lv_iadd hx hb dX6_tick_241 ?_
                refine lv_goto (tgt := 246) hx hb dX6_tick_242 (by decide) ?_
                exact hM_49 ((s165 (f_X6_near i154 i165)) + (1 : Int32)) _ _ _ (if_pos c_45).symm (lv_sub hl [2, 3, 4, 5] rfl) hP hD hS
          refine bv_ifeq hx hb (f_X6_goes s165 i154) 207 dX6_tick_177 (by decide) (fun c_28 => ?_) (fun c_28 => ?_)
          · refine lv_iconst (v := 0) hx hb dX6_tick_207 (by decide) ?_
            exact hM_42 false _ _ _ (if_neg c_28).symm (lv_sub hl [0, 1, 2, 3] rfl) hP hD hS
          · refine lv_aload_n hx hb dX6_tick_180 rfl (lv_at hl 3 rfl) ?_
            refine lv_iload hx hb dX6_tick_181 (lv_at hl 0 rfl) ?_
            refine ct_callS (As := [.ref a, .int (nI i165)]) (rest := []) X hP hD hS hA (k_X6_goes l G cI cS cL a s165 i165 (by omega)) cq_X6_goes aw_948 ⟨Nat.le_of_ble_eq_true rfl, Nat.le_of_ble_eq_true rfl⟩ [2] (cs := [rwC a cI 129 s165]) rfl (by decide) (cs' := [rwC a cI 129 s165]) rfl rfl rfl hl.1 rfl (Nat.le_of_ble_eq_true rfl) dX6_tick_183 ⟨Nat.zero_le _, Nat.zero_le _⟩ rfl (bs' := [mdC q refusal isShot states length at_ good runs did, rwC (q 5) cI 8 (it (L_X6_tick_4 row) 0 8 pulls), rwC a cI 129 s165]) rfl (fun H locs hP hD hS => ?_)
            have hM_39 : ∀ (v_38 : Bool) (ls : Array Slot) (H : Heap) (locs : List Loc), v_38 = (if (f_X6_goes s165 i165) = true then (if (f_X6_beamOf s165 i154) = (f_X6_beamOf s165 i165) then true else false) else false) → lv_has ls 7 [(4, .int (nI i165)), (3, .int (nI i154)), (2, .int ((it (L_X6_tick_29 pulls row) 0 8 ((0 : Int32), row)).1)), (1, .ref a)] → va_P G classes [mdC q refusal isShot states length at_ good runs did, rwC (q 5) cI 8 (it (L_X6_tick_4 row) 0 8 pulls), rwC a cI 129 s165].flatten H → va_D A [mdC q refusal isShot states length at_ good runs did, rwC (q 5) cI 8 (it (L_X6_tick_4 row) 0 8 pulls), rwC a cI 129 s165].flatten → va_S A s.heap H locs → W p l e ({ frames := 3, cells := 0, slots := 0, locals := 66 } : Room) s m args below meth c H locs 0 0 QQ (F0 m 208 ls [.int (bI v_38)]) := by
              intro v_38 ls H locs e_v_38 hl hP hD hS
              subst e_v_38
              exact hM_42 (if (f_X6_goes s165 i165) = true then (if (f_X6_beamOf s165 i154) = (f_X6_beamOf s165 i165) then true else false) else false) _ _ _ (if_pos c_28).symm (lv_sub hl [0, 1, 2, 3] rfl) hP hD hS
            refine bv_ifeq hx hb (f_X6_goes s165 i165) 207 dX6_tick_186 (by decide) (fun c_30 => ?_) (fun c_30 => ?_)
            · refine lv_iconst (v := 0) hx hb dX6_tick_207 (by decide) ?_
              exact hM_39 false _ _ _ (if_neg c_30).symm (lv_sub hl [0, 1, 2, 3] rfl) hP hD hS
            · refine lv_aload_n hx hb dX6_tick_189 rfl (lv_at hl 3 rfl) ?_
              refine lv_iload_n hx hb dX6_tick_190 rfl (lv_at hl 1 rfl) ?_
              refine ct_callS (As := [.ref a, .int (nI i154)]) (rest := []) X hP hD hS hA (k_X6_beamOf l G cI cS cL a s165 i154 (by omega)) cq_X6_beamOf aw_954 ⟨Nat.le_of_ble_eq_true rfl, Nat.le_of_ble_eq_true rfl⟩ [2] (cs := [rwC a cI 129 s165]) rfl (by decide) (cs' := [rwC a cI 129 s165]) rfl rfl rfl hl.1 rfl (Nat.le_of_ble_eq_true rfl) dX6_tick_191 ⟨Nat.zero_le _, Nat.zero_le _⟩ rfl (bs' := [mdC q refusal isShot states length at_ good runs did, rwC (q 5) cI 8 (it (L_X6_tick_4 row) 0 8 pulls), rwC a cI 129 s165]) rfl (fun H locs hP hD hS => ?_)
              refine lv_aload_n hx hb dX6_tick_194 rfl (lv_at hl 3 rfl) ?_
              refine lv_iload hx hb dX6_tick_195 (lv_at hl 0 rfl) ?_
              refine ct_callS (As := [.ref a, .int (nI i165)]) (rest := [.int (f_X6_beamOf s165 i154)]) X hP hD hS hA (k_X6_beamOf l G cI cS cL a s165 i165 (by omega)) cq_X6_beamOf aw_954 ⟨Nat.le_of_ble_eq_true rfl, Nat.le_of_ble_eq_true rfl⟩ [2] (cs := [rwC a cI 129 s165]) rfl (by decide) (cs' := [rwC a cI 129 s165]) rfl rfl rfl hl.1 rfl (Nat.le_of_ble_eq_true rfl) dX6_tick_197 ⟨Nat.zero_le _, Nat.zero_le _⟩ rfl (bs' := [mdC q refusal isShot states length at_ good runs did, rwC (q 5) cI 8 (it (L_X6_tick_4 row) 0 8 pulls), rwC a cI 129 s165]) rfl (fun H locs hP hD hS => ?_)
              have hM_36 : ∀ (v_35 : Bool) (ls : Array Slot) (H : Heap) (locs : List Loc), v_35 = (if (f_X6_beamOf s165 i154) = (f_X6_beamOf s165 i165) then true else false) → lv_has ls 7 [(4, .int (nI i165)), (3, .int (nI i154)), (2, .int ((it (L_X6_tick_29 pulls row) 0 8 ((0 : Int32), row)).1)), (1, .ref a)] → va_P G classes [mdC q refusal isShot states length at_ good runs did, rwC (q 5) cI 8 (it (L_X6_tick_4 row) 0 8 pulls), rwC a cI 129 s165].flatten H → va_D A [mdC q refusal isShot states length at_ good runs did, rwC (q 5) cI 8 (it (L_X6_tick_4 row) 0 8 pulls), rwC a cI 129 s165].flatten → va_S A s.heap H locs → W p l e ({ frames := 3, cells := 0, slots := 0, locals := 66 } : Room) s m args below meth c H locs 0 0 QQ (F0 m 208 ls [.int (bI v_35)]) := by
                intro v_35 ls H locs e_v_35 hl hP hD hS
                subst e_v_35
                exact hM_39 (if (f_X6_beamOf s165 i154) = (f_X6_beamOf s165 i165) then true else false) _ _ _ (if_pos c_30).symm (lv_sub hl [0, 1, 2, 3] rfl) hP hD hS
              refine iv_ne hx hb 207 dX6_tick_200 (by decide) (fun c_32 => ?_) (fun c_32 => ?_)
              · refine lv_iconst (v := 0) hx hb dX6_tick_207 (by decide) ?_
                exact hM_36 false _ _ _ (if_neg c_32).symm (lv_sub hl [0, 1, 2, 3] rfl) hP hD hS
              · refine lv_iconst (v := 1) hx hb dX6_tick_203 (by decide) ?_
                refine lv_goto (tgt := 208) hx hb dX6_tick_204 (by decide) ?_
                exact hM_36 true _ _ _ (if_pos c_32).symm (lv_sub hl [0, 1, 2, 3] rfl) hP hD hS
        · intro ls H locs hl hP hD hS
          refine lv_iload hx hb dX6_tick_165 (lv_at hl 0 rfl) ?_
          refine lv_bipush (v := 8) hx hb dX6_tick_167 (by decide) ?_
          refine nv_ge hx hb 8 8 253 (by omega) (by omega) dX6_tick_169 (by decide) (fun _ => ?_) (fun hc => absurd hc (by omega))
          refine nv_iinc (k := 1) (lv' := [(3, .int (nI (i154 + 1))), (4, .int (nI 8)), (2, .int ((it (L_X6_tick_29 pulls row) 0 8 ((0 : Int32), row)).1)), (1, .ref a)]) hx hb i154 dX6_tick_253 hl rfl (by decide) rfl (fun ls hl => ?_)
          refine lv_goto (tgt := 154) hx hb dX6_tick_256 (by decide) ?_
          exact ih _ _ _ (lv_sub hl [0, 2, 3] rfl) hP hD hS
      · intro ls H locs hl hP hD hS
        refine lv_iload_n hx hb dX6_tick_154 rfl (lv_at hl 0 rfl) ?_
        refine lv_bipush (v := 8) hx hb dX6_tick_155 (by decide) ?_
        refine nv_ge hx hb 8 8 259 (by omega) (by omega) dX6_tick_157 (by decide) (fun _ => ?_) (fun hc => absurd hc (by omega))
        refine lv_aload_n hx hb dX6_tick_259 rfl (lv_at hl 2 rfl) ?_
        refine lv_bipush (v := 126) hx hb dX6_tick_260 (by decide) ?_
        refine lv_dup2_11 hx hb dX6_tick_262 rfl rfl ?_
        refine nv_iald hx hb hK hP 2 0 rfl rfl 126 (by first | omega | exact near_lt (by omega) (by omega)) (by decide) dX6_tick_263 ?_
        refine lv_iconst (v := 1) hx hb dX6_tick_264 (by decide) ?_
        refine lv_iadd hx hb dX6_tick_265 ?_
        refine nv_iast hx hb hK hP hD hS 2 0 rfl rfl 126 (by first | omega | exact near_lt (by omega) (by omega)) (by decide) dX6_tick_266 (ws' := [mdC q refusal isShot states length at_ good runs did, rwC (q 5) cI 8 (it (L_X6_tick_4 row) 0 8 pulls), rwC a cI 129 (upd (it L_X6_tick_154 0 8 (it (L_X6_tick_29 pulls row) 0 8 ((0 : Int32), row)).2) 126 (((it L_X6_tick_154 0 8 (it (L_X6_tick_29 pulls row) 0 8 ((0 : Int32), row)).2) 126) + (1 : Int32)))].flatten) rfl (fun H locs hP hD hS => ?_)
        refine lv_aload_n hx hb dX6_tick_267 rfl (lv_at hl 2 rfl) ?_
        refine lv_sipush (v := 128) hx hb dX6_tick_268 (by decide) ?_
        refine lv_dup2_11 hx hb dX6_tick_271 rfl rfl ?_
        refine nv_iald hx hb hK hP 2 0 rfl rfl 128 (by first | omega | exact near_lt (by omega) (by omega)) (by decide) dX6_tick_272 ?_
        refine lv_iload_n hx hb dX6_tick_273 rfl (lv_at hl 1 rfl) ?_
        have hM_65 : ∀ (v_64 : Bool) (ls : Array Slot) (H : Heap) (locs : List Loc), v_64 = (if (it (L_X6_tick_29 pulls row) 0 8 ((0 : Int32), row)).1 ≤ 0 then false else true) → lv_has ls 7 [(2, .int ((it (L_X6_tick_29 pulls row) 0 8 ((0 : Int32), row)).1))] → va_P G classes [mdC q refusal isShot states length at_ good runs did, rwC (q 5) cI 8 (it (L_X6_tick_4 row) 0 8 pulls), rwC a cI 129 (upd (it L_X6_tick_154 0 8 (it (L_X6_tick_29 pulls row) 0 8 ((0 : Int32), row)).2) 126 (((it L_X6_tick_154 0 8 (it (L_X6_tick_29 pulls row) 0 8 ((0 : Int32), row)).2) 126) + (1 : Int32)))].flatten H → va_D A [mdC q refusal isShot states length at_ good runs did, rwC (q 5) cI 8 (it (L_X6_tick_4 row) 0 8 pulls), rwC a cI 129 (upd (it L_X6_tick_154 0 8 (it (L_X6_tick_29 pulls row) 0 8 ((0 : Int32), row)).2) 126 (((it L_X6_tick_154 0 8 (it (L_X6_tick_29 pulls row) 0 8 ((0 : Int32), row)).2) 126) + (1 : Int32)))].flatten → va_S A s.heap H locs → W p l e ({ frames := 3, cells := 0, slots := 0, locals := 66 } : Room) s m args below meth c H locs 0 0 QQ (F0 m 282 ls [.int (bI v_64), .int ((upd (it L_X6_tick_154 0 8 (it (L_X6_tick_29 pulls row) 0 8 ((0 : Int32), row)).2) 126 (((it L_X6_tick_154 0 8 (it (L_X6_tick_29 pulls row) 0 8 ((0 : Int32), row)).2) 126) + (1 : Int32))) 128), .int (128 : Int32), .ref a]) := by
          intro v_64 ls H locs e_v_64 hl hP hD hS
          subst e_v_64
          refine lv_iadd hx hb dX6_tick_282 ?_
          refine nv_iast hx hb hK hP hD hS 2 0 rfl rfl 128 (by first | omega | exact near_lt (by omega) (by omega)) (by decide) dX6_tick_283 (ws' := [mdC q refusal isShot states length at_ good runs did, rwC (q 5) cI 8 (it (L_X6_tick_4 row) 0 8 pulls), rwC a cI 129 (upd (upd (it L_X6_tick_154 0 8 (it (L_X6_tick_29 pulls row) 0 8 ((0 : Int32), row)).2) 126 (((it L_X6_tick_154 0 8 (it (L_X6_tick_29 pulls row) 0 8 ((0 : Int32), row)).2) 126) + (1 : Int32))) 128 (((upd (it L_X6_tick_154 0 8 (it (L_X6_tick_29 pulls row) 0 8 ((0 : Int32), row)).2) 126 (((it L_X6_tick_154 0 8 (it (L_X6_tick_29 pulls row) 0 8 ((0 : Int32), row)).2) 126) + (1 : Int32))) 128) + (bI (if (it (L_X6_tick_29 pulls row) 0 8 ((0 : Int32), row)).1 ≤ 0 then false else true))))].flatten) rfl (fun H locs hP hD hS => ?_)
          refine lv_iload_n hx hb dX6_tick_284 rfl (lv_at hl 0 rfl) ?_
          rw [← hQQ]; exact W.iret hx hb hr (ct_end (F := (f_X6_tick pulls row)) (u := ((it (L_X6_tick_29 pulls row) 0 8 ((0 : Int32), row)).1, (it (L_X6_tick_4 row) 0 8 pulls), (upd (upd (it L_X6_tick_154 0 8 (it (L_X6_tick_29 pulls row) 0 8 ((0 : Int32), row)).2) 126 (((it L_X6_tick_154 0 8 (it (L_X6_tick_29 pulls row) 0 8 ((0 : Int32), row)).2) 126) + (1 : Int32))) 128 (((upd (it L_X6_tick_154 0 8 (it (L_X6_tick_29 pulls row) 0 8 ((0 : Int32), row)).2) 126 (((it L_X6_tick_154 0 8 (it (L_X6_tick_29 pulls row) 0 8 ((0 : Int32), row)).2) 126) + (1 : Int32))) 128) + (bI (if (it (L_X6_tick_29 pulls row) 0 8 ((0 : Int32), row)).1 ≤ 0 then false else true)))))) (rf := (fun u => some (.int u.1))) (wf := (fun u => [mdC q refusal isShot states length at_ good runs did, rwC (q 5) cI 8 u.2.1, rwC a cI 129 u.2.2].flatten)) rfl rfl hP hD hS) hS.2.2 dX6_tick_285
        refine lv_if_le (tgt := 281) hx hb dX6_tick_274 (by decide) (fun c_61 => ?_) (fun c_61 => ?_)
        · refine lv_iconst (v := 0) hx hb dX6_tick_281 (by decide) ?_
          exact hM_65 false _ _ _ (if_pos c_61).symm (lv_sub hl [1] rfl) hP hD hS
        · refine lv_iconst (v := 1) hx hb dX6_tick_277 (by decide) ?_
          refine lv_goto (tgt := 282) hx hb dX6_tick_278 (by decide) ?_
          exact hM_65 true _ _ _ (if_neg c_61).symm (lv_sub hl [1] rfl) hP hD hS
set_option maxRecDepth 100000 in
set_option maxHeartbeats 4000000 in
theorem k_X6_goTicks (l : Launch) (G : va_G) (cI cS cL : ClassId) (q : Nat → Nat) (a : Nat) (refusal : Int32) (isShot : Bool) (states : Nat) (length : Nat) (at_ : Nat) (good : Bool) (runs : Bool) (did : Int32) (pulls : Nat → Int32) (row : Nat → Int32) (n : Int32) (hI : InvB row) : Ct l G (tyl cI cS cL) yX6_goTicks cX6_goTicks 5 (some (Jvm.ClassFile.FieldType.int)) 4 92 0 0 [.ref (q 0), .ref a, .int n] [mdC q refusal isShot states length at_ good runs did, rwC (q 5) cI 8 pulls, rwC a cI 129 row].flatten (f_X6_goTicks pulls row n) (fun u => some (.int u.1)) (fun u => [mdC q refusal isShot states length at_ good runs did, rwC (q 5) cI 8 u.2.1, rwC a cI 129 u.2.2].flatten) := by
  refine Ct.of (by decide +kernel) (Nat.le_of_ble_eq_true rfl) ?_
  intro p e s m args below meth c A ls hx hb hr hml hw hown hlocks hin hK hN hP hD hS hA hl
  have hown : s.vm.findClass RX6 = some m.cls := hown
  have X : Cx p s m args c cX6_goTicks 5 RX6 G (tyl cI cS cL) := ⟨hx, hb, hml, hown, hw, hK, hN⟩
  have hP : va_P G classes [mdC q refusal isShot states length at_ good runs did, rwC (q 5) cI 8 pulls, rwC a cI 129 row].flatten s.heap := hP
  have hl : lv_has ls 5 [(0, .ref (q 0)), (1, .ref a), (2, .int n)] := hl
  generalize hQQ : MQ below _ args s 0 0 A = QQ
  refine lv_iconst (v := 0) hx hb dX6_goTicks_0 (by decide) ?_
  refine lv_istore_n (lv' := [(3, .int (0 : Int32)), (0, .ref (q 0)), (1, .ref a), (2, .int n)]) hx hb dX6_goTicks_1 rfl hl (by decide) rfl (fun ls hl => ?_)
  refine lv_iconst (v := 0) hx hb dX6_goTicks_2 (by decide) ?_
  refine lv_istore (lv' := [(4, .int (0 : Int32)), (3, .int (0 : Int32)), (0, .ref (q 0)), (1, .ref a), (2, .int n)]) hx hb dX6_goTicks_3 hl (by decide) rfl (fun ls hl => ?_)
  refine it_loopI (f := L_X6_goTicks_5) n.toNatClampNeg (fun (s5 : Int32 × (Nat → Int32) × (Nat → Int32)) => InvB s5.2.2) (fun (i5 : Nat) (s5 : Int32 × (Nat → Int32) × (Nat → Int32)) => ∀ (ls : Array Slot) (H : Heap) (locs : List Loc), lv_has ls 5 [(4, .int (nI i5)), (3, .int s5.1), (0, .ref (q 0)), (1, .ref a), (2, .int n)] → va_P G classes [mdC q refusal isShot states length at_ good runs did, rwC (q 5) cI 8 s5.2.1, rwC a cI 129 s5.2.2].flatten H → va_D A [mdC q refusal isShot states length at_ good runs did, rwC (q 5) cI 8 s5.2.1, rwC a cI 129 s5.2.2].flatten → va_S A s.heap H locs → W p l e ({ frames := 4, cells := 0, slots := 0, locals := 92 } : Room) s m args below meth c H locs 0 0 QQ (F0 m 5 ls [])) (fun i5 s5 hi5 hI => InvB_tick hI) (fun i5 s5 hi5 hI ih => ?_) n.toNatClampNeg 0 ((0 : Int32), pulls, row) (by omega) hI (fun hI => ?_) ls _ _ (lv_sub hl [0, 1, 2, 3, 4] rfl) hP hD hS
  · intro ls H locs hl hP hD hS
    refine lv_iload hx hb dX6_goTicks_5 (lv_at hl 0 rfl) ?_
    refine lv_iload_n hx hb dX6_goTicks_7 rfl (lv_at hl 4 rfl) ?_
    refine nv_geI hx hb i5 25 (Nat.le_of_lt hi5) dX6_goTicks_8 (by decide) (fun hc => absurd hc (Nat.ne_of_lt hi5)) (fun _ => ?_)
    refine lv_iload_n hx hb dX6_goTicks_11 rfl (lv_at hl 1 rfl) ?_
    refine lv_aload_n hx hb dX6_goTicks_12 rfl (lv_at hl 2 rfl) ?_
    refine lv_aload_n hx hb dX6_goTicks_13 rfl (lv_at hl 3 rfl) ?_
    refine ct_callV (As := [.ref a]) (rest := [.int s5.1]) X hP hD hS hA (k_X6_tick l G cI cS cL q a refusal isShot states length at_ good runs did s5.2.1 s5.2.2 hI) cp_X6_tick aw_941 ⟨Nat.le_of_ble_eq_true rfl, Nat.le_of_ble_eq_true rfl⟩ [0, 1, 2] (cs := [mdC q refusal isShot states length at_ good runs did, rwC (q 5) cI 8 s5.2.1, rwC a cI 129 s5.2.2]) rfl (by decide) (cs' := [mdC q refusal isShot states length at_ good runs did, rwC (q 5) cI 8 ((f_X6_tick s5.2.1 s5.2.2).2.1), rwC a cI 129 ((f_X6_tick s5.2.1 s5.2.2).2.2)]) rfl rfl 4 rfl rfl (q0 := 0) rfl rfl hl.1 rfl (Nat.le_of_ble_eq_true rfl) dX6_goTicks_14 ⟨Nat.zero_le _, Nat.zero_le _⟩ rfl (bs' := [mdC q refusal isShot states length at_ good runs did, rwC (q 5) cI 8 ((f_X6_tick s5.2.1 s5.2.2).2.1), rwC a cI 129 ((f_X6_tick s5.2.1 s5.2.2).2.2)]) rfl (fun H locs hP hD hS => ?_)
    refine lv_iadd hx hb dX6_goTicks_17 ?_
    refine lv_istore_n (lv' := [(3, .int (s5.1 + (f_X6_tick s5.2.1 s5.2.2).1)), (4, .int (nI i5)), (0, .ref (q 0)), (1, .ref a), (2, .int n)]) hx hb dX6_goTicks_18 rfl hl (by decide) rfl (fun ls hl => ?_)
    refine nv_iinc (k := 1) (lv' := [(4, .int (nI (i5 + 1))), (3, .int (s5.1 + (f_X6_tick s5.2.1 s5.2.2).1)), (0, .ref (q 0)), (1, .ref a), (2, .int n)]) hx hb i5 dX6_goTicks_19 hl rfl (by decide) rfl (fun ls hl => ?_)
    refine lv_goto (tgt := 5) hx hb dX6_goTicks_22 (by decide) ?_
    exact ih _ _ _ (lv_sub hl [0, 1, 2, 3, 4] rfl) hP hD hS
  · intro ls H locs hl hP hD hS
    refine lv_iload hx hb dX6_goTicks_5 (lv_at hl 0 rfl) ?_
    refine lv_iload_n hx hb dX6_goTicks_7 rfl (lv_at hl 4 rfl) ?_
    refine nv_geI hx hb n.toNatClampNeg 25 (Nat.le_refl _) dX6_goTicks_8 (by decide) (fun _ => ?_) (fun hc => absurd hc (Nat.lt_irrefl _))
    refine lv_iload_n hx hb dX6_goTicks_25 rfl (lv_at hl 1 rfl) ?_
    rw [← hQQ]; exact W.iret hx hb hr (ct_end (F := (f_X6_goTicks pulls row n)) (u := (it L_X6_goTicks_5 0 n.toNatClampNeg ((0 : Int32), pulls, row))) (rf := (fun u => some (.int u.1))) (wf := (fun u => [mdC q refusal isShot states length at_ good runs did, rwC (q 5) cI 8 u.2.1, rwC a cI 129 u.2.2].flatten)) rfl rfl hP hD hS) hS.2.2 dX6_goTicks_26
set_option maxRecDepth 100000 in
set_option maxHeartbeats 4000000 in
theorem k_X6_layGroups (l : Launch) (G : va_G) (cI cS cL : ClassId) (q : Nat → Nat) (a : Nat) (refusal : Int32) (isShot : Bool) (states : Nat) (length : Nat) (at_ : Nat) (good : Bool) (runs : Bool) (did : Int32) (group : Nat → Int32) (row : Nat → Int32) : Ct l G (tyl cI cS cL) yX6_layGroups cX6_layGroups 7 none 2 43 0 0 [.ref (q 0), .ref a] [mdC q refusal isShot states length at_ good runs did, rwC (q 6) cI 8 group, rwC a cI 129 row].flatten (f_X6_layGroups group row) (fun _ => none) (fun u => [mdC q refusal isShot states length at_ good runs did, rwC (q 6) cI 8 u, rwC a cI 129 row].flatten) := by
  refine Ct.of (by decide +kernel) (Nat.le_of_ble_eq_true rfl) ?_
  intro p e s m args below meth c A ls hx hb hr hml hw hown hlocks hin hK hN hP hD hS hA hl
  have hown : s.vm.findClass RX6 = some m.cls := hown
  have X : Cx p s m args c cX6_layGroups 7 RX6 G (tyl cI cS cL) := ⟨hx, hb, hml, hown, hw, hK, hN⟩
  have hP : va_P G classes [mdC q refusal isShot states length at_ good runs did, rwC (q 6) cI 8 group, rwC a cI 129 row].flatten s.heap := hP
  have hl : lv_has ls 7 [(0, .ref (q 0)), (1, .ref a)] := hl
  generalize hQQ : MQ below _ args s 0 0 A = QQ
  refine lv_iconst (v := 0) hx hb dX6_layGroups_0 (by decide) ?_
  refine lv_istore_n (lv' := [(2, .int (0 : Int32)), (0, .ref (q 0)), (1, .ref a)]) hx hb dX6_layGroups_1 rfl hl (by decide) rfl (fun ls hl => ?_)
  refine it_loop (f := L_X6_layGroups_2) 8 (fun (i2 : Nat) (s2 : (Nat → Int32)) => ∀ (ls : Array Slot) (H : Heap) (locs : List Loc), lv_has ls 7 [(2, .int (nI i2)), (0, .ref (q 0)), (1, .ref a)] → va_P G classes [mdC q refusal isShot states length at_ good runs did, rwC (q 6) cI 8 s2, rwC a cI 129 row].flatten H → va_D A [mdC q refusal isShot states length at_ good runs did, rwC (q 6) cI 8 s2, rwC a cI 129 row].flatten → va_S A s.heap H locs → W p l e ({ frames := 2, cells := 0, slots := 0, locals := 43 } : Room) s m args below meth c H locs 0 0 QQ (F0 m 2 ls [])) (fun i2 s2 hi2 ih => ?_) 8 0 group (by omega) ?_ ls _ _ (lv_sub hl [0, 1, 2] rfl) hP hD hS
  · intro ls H locs hl hP hD hS
    refine lv_iload_n hx hb dX6_layGroups_2 rfl (lv_at hl 0 rfl) ?_
    refine lv_bipush (v := 8) hx hb dX6_layGroups_3 (by decide) ?_
    refine nv_ge hx hb i2 8 21 (by omega) (by omega) dX6_layGroups_5 (by decide) (fun hc => absurd hc (by omega)) (fun _ => ?_)
    refine lv_aload_n hx hb dX6_layGroups_8 rfl (lv_at hl 1 rfl) ?_
    refine va_get (D := G) (ci := 4) (C := RX6) (T := TX6) (N := 15) hx hb hw in_X6 hown hK hP 0 rfl rfl 8 (by decide) (hw _ aw_879) (fun _ h9 => h9) rfl dX6_layGroups_9 ?_
    refine lv_iload_n hx hb dX6_layGroups_12 rfl (lv_at hl 0 rfl) ?_
    refine lv_iload_n hx hb dX6_layGroups_13 rfl (lv_at hl 0 rfl) ?_
    refine nv_iast hx hb hK hP hD hS 1 0 rfl rfl i2 (by omega) (by decide) dX6_layGroups_14 (ws' := [mdC q refusal isShot states length at_ good runs did, rwC (q 6) cI 8 (upd s2 i2 (nI i2)), rwC a cI 129 row].flatten) rfl (fun H locs hP hD hS => ?_)
    refine nv_iinc (k := 0) (lv' := [(2, .int (nI (i2 + 1))), (0, .ref (q 0)), (1, .ref a)]) hx hb i2 dX6_layGroups_15 hl rfl (by decide) rfl (fun ls hl => ?_)
    refine lv_goto (tgt := 2) hx hb dX6_layGroups_18 (by decide) ?_
    exact ih _ _ _ (lv_sub hl [0, 1, 2] rfl) hP hD hS
  · intro ls H locs hl hP hD hS
    refine lv_iload_n hx hb dX6_layGroups_2 rfl (lv_at hl 0 rfl) ?_
    refine lv_bipush (v := 8) hx hb dX6_layGroups_3 (by decide) ?_
    refine nv_ge hx hb 8 8 21 (by omega) (by omega) dX6_layGroups_5 (by decide) (fun _ => ?_) (fun hc => absurd hc (by omega))
    refine lv_iconst (v := 0) hx hb dX6_layGroups_21 (by decide) ?_
    refine lv_istore_n (lv' := [(2, .int (0 : Int32)), (0, .ref (q 0)), (1, .ref a)]) hx hb dX6_layGroups_22 rfl hl (by decide) rfl (fun ls hl => ?_)
    refine it_loop (f := (L_X6_layGroups_23 row)) 8 (fun (i23 : Nat) (s23 : (Nat → Int32)) => ∀ (ls : Array Slot) (H : Heap) (locs : List Loc), lv_has ls 7 [(2, .int (nI i23)), (0, .ref (q 0)), (1, .ref a)] → va_P G classes [mdC q refusal isShot states length at_ good runs did, rwC (q 6) cI 8 s23, rwC a cI 129 row].flatten H → va_D A [mdC q refusal isShot states length at_ good runs did, rwC (q 6) cI 8 s23, rwC a cI 129 row].flatten → va_S A s.heap H locs → W p l e ({ frames := 2, cells := 0, slots := 0, locals := 43 } : Room) s m args below meth c H locs 0 0 QQ (F0 m 23 ls [])) (fun i23 s23 hi23 ih => ?_) 8 0 (it L_X6_layGroups_2 0 8 group) (by omega) ?_ ls _ _ (lv_sub hl [0, 1, 2] rfl) hP hD hS
    · intro ls H locs hl hP hD hS
      refine lv_iload_n hx hb dX6_layGroups_23 rfl (lv_at hl 0 rfl) ?_
      refine lv_bipush (v := 8) hx hb dX6_layGroups_24 (by decide) ?_
      refine nv_ge hx hb i23 8 186 (by omega) (by omega) dX6_layGroups_26 (by decide) (fun hc => absurd hc (by omega)) (fun _ => ?_)
      refine lv_iload_n hx hb dX6_layGroups_29 rfl (lv_at hl 0 rfl) ?_
      refine lv_iconst (v := 1) hx hb dX6_layGroups_30 (by decide) ?_
      refine nv_iadd hx hb i23 1 dX6_layGroups_31 ?_
      refine lv_istore_n (lv' := [(3, .int (nI (i23 + 1))), (2, .int (nI i23)), (0, .ref (q 0)), (1, .ref a)]) hx hb dX6_layGroups_32 rfl hl (by decide) rfl (fun ls hl => ?_)
      refine it_loop (f := (L_X6_layGroups_33 row i23)) 8 (fun (i33 : Nat) (s33 : (Nat → Int32)) => ∀ (ls : Array Slot) (H : Heap) (locs : List Loc), lv_has ls 7 [(3, .int (nI i33)), (2, .int (nI i23)), (0, .ref (q 0)), (1, .ref a)] → va_P G classes [mdC q refusal isShot states length at_ good runs did, rwC (q 6) cI 8 s33, rwC a cI 129 row].flatten H → va_D A [mdC q refusal isShot states length at_ good runs did, rwC (q 6) cI 8 s33, rwC a cI 129 row].flatten → va_S A s.heap H locs → W p l e ({ frames := 2, cells := 0, slots := 0, locals := 43 } : Room) s m args below meth c H locs 0 0 QQ (F0 m 33 ls [])) (fun i33 s33 hi33 ih => ?_) (8 - (i23 + 1)) (i23 + 1) s23 (by omega) ?_ ls _ _ (lv_sub hl [0, 1, 2, 3] rfl) hP hD hS
      · intro ls H locs hl hP hD hS
        refine lv_iload_n hx hb dX6_layGroups_33 rfl (lv_at hl 0 rfl) ?_
        refine lv_bipush (v := 8) hx hb dX6_layGroups_34 (by decide) ?_
        refine nv_ge hx hb i33 8 180 (by omega) (by omega) dX6_layGroups_36 (by decide) (fun hc => absurd hc (by omega)) (fun _ => ?_)
        refine lv_aload_n hx hb dX6_layGroups_39 rfl (lv_at hl 3 rfl) ?_
        refine lv_iload_n hx hb dX6_layGroups_40 rfl (lv_at hl 1 rfl) ?_
        refine lv_iload_n hx hb dX6_layGroups_41 rfl (lv_at hl 0 rfl) ?_
        refine ct_callS (As := [.ref a, .int (nI i23), .int (nI i33)]) (rest := []) X hP hD hS hA (k_X6_isLocked l G cI cS cL a row i23 i33 (by omega) (by omega)) cq_X6_isLocked aw_1097 ⟨Nat.le_of_ble_eq_true rfl, Nat.le_of_ble_eq_true rfl⟩ [2] (cs := [rwC a cI 129 row]) rfl (by decide) (cs' := [rwC a cI 129 row]) rfl rfl rfl hl.1 rfl (Nat.le_of_ble_eq_true rfl) dX6_layGroups_42 ⟨Nat.zero_le _, Nat.zero_le _⟩ rfl (bs' := [mdC q refusal isShot states length at_ good runs did, rwC (q 6) cI 8 s33, rwC a cI 129 row]) rfl (fun H locs hP hD hS => ?_)
        have hM_41 : ∀ (v_40 : Nat → Int32) (ls : Array Slot) (H : Heap) (locs : List Loc), v_40 = (if (f_X6_isLocked row i23 i33) = true then (if (s33 i23) = (s33 i33) then s33 else (it (L_X6_layGroups_130 i23 i33 s33) 0 8 s33)) else s33) → lv_has ls 7 [(3, .int (nI i33)), (2, .int (nI i23)), (0, .ref (q 0)), (1, .ref a)] → va_P G classes [mdC q refusal isShot states length at_ good runs did, rwC (q 6) cI 8 v_40, rwC a cI 129 row].flatten H → va_D A [mdC q refusal isShot states length at_ good runs did, rwC (q 6) cI 8 v_40, rwC a cI 129 row].flatten → va_S A s.heap H locs → W p l e ({ frames := 2, cells := 0, slots := 0, locals := 43 } : Room) s m args below meth c H locs 0 0 QQ (F0 m 174 ls []) := by
          intro v_40 ls H locs e_v_40 hl hP hD hS
          subst e_v_40
          refine nv_iinc (k := 0) (lv' := [(3, .int (nI (i33 + 1))), (2, .int (nI i23)), (0, .ref (q 0)), (1, .ref a)]) hx hb i33 dX6_layGroups_174 hl rfl (by decide) rfl (fun ls hl => ?_)
          refine lv_goto (tgt := 33) hx hb dX6_layGroups_177 (by decide) ?_
          exact ih _ _ _ (lv_sub hl [0, 1, 2, 3] rfl) hP hD hS
        refine bv_ifeq hx hb (f_X6_isLocked row i23 i33) 174 dX6_layGroups_45 (by decide) (fun c_11 => ?_) (fun c_11 => ?_)
        · exact hM_41 s33 _ _ _ (if_neg c_11).symm (lv_sub hl [0, 1, 2, 3] rfl) hP hD hS
        · refine lv_aload_n hx hb dX6_layGroups_48 rfl (lv_at hl 2 rfl) ?_
          refine va_get (D := G) (ci := 4) (C := RX6) (T := TX6) (N := 15) hx hb hw in_X6 hown hK hP 0 rfl rfl 8 (by decide) (hw _ aw_879) (fun _ h9 => h9) rfl dX6_layGroups_49 ?_
          refine lv_iload_n hx hb dX6_layGroups_52 rfl (lv_at hl 1 rfl) ?_
          refine nv_iald hx hb hK hP 1 0 rfl rfl i23 (by omega) (by decide) dX6_layGroups_53 ?_
          refine lv_aload_n hx hb dX6_layGroups_54 rfl (lv_at hl 2 rfl) ?_
          refine va_get (D := G) (ci := 4) (C := RX6) (T := TX6) (N := 15) hx hb hw in_X6 hown hK hP 0 rfl rfl 8 (by decide) (hw _ aw_879) (fun _ h9 => h9) rfl dX6_layGroups_55 ?_
          refine lv_iload_n hx hb dX6_layGroups_58 rfl (lv_at hl 0 rfl) ?_
          refine nv_iald hx hb hK hP 1 0 rfl rfl i33 (by omega) (by decide) dX6_layGroups_59 ?_
          have hM_38 : ∀ (v_37 : Nat → Int32) (ls : Array Slot) (H : Heap) (locs : List Loc), v_37 = (if (s33 i23) = (s33 i33) then s33 else (it (L_X6_layGroups_130 i23 i33 s33) 0 8 s33)) → lv_has ls 7 [(3, .int (nI i33)), (2, .int (nI i23)), (0, .ref (q 0)), (1, .ref a)] → va_P G classes [mdC q refusal isShot states length at_ good runs did, rwC (q 6) cI 8 v_37, rwC a cI 129 row].flatten H → va_D A [mdC q refusal isShot states length at_ good runs did, rwC (q 6) cI 8 v_37, rwC a cI 129 row].flatten → va_S A s.heap H locs → W p l e ({ frames := 2, cells := 0, slots := 0, locals := 43 } : Room) s m args below meth c H locs 0 0 QQ (F0 m 174 ls []) := by
            intro v_37 ls H locs e_v_37 hl hP hD hS
            subst e_v_37
            exact hM_41 (if (s33 i23) = (s33 i33) then s33 else (it (L_X6_layGroups_130 i23 i33 s33) 0 8 s33)) _ _ _ (if_pos c_11).symm (lv_sub hl [0, 1, 2, 3] rfl) hP hD hS
          refine lv_icmp_eq (tgt := 174) hx hb dX6_layGroups_60 (by decide) (fun c_13 => ?_) (fun c_13 => ?_)
          · exact hM_38 s33 _ _ _ (if_pos c_13).symm (lv_sub hl [0, 1, 2, 3] rfl) hP hD hS
          · refine lv_aload_n hx hb dX6_layGroups_63 rfl (lv_at hl 2 rfl) ?_
            refine va_get (D := G) (ci := 4) (C := RX6) (T := TX6) (N := 15) hx hb hw in_X6 hown hK hP 0 rfl rfl 8 (by decide) (hw _ aw_879) (fun _ h9 => h9) rfl dX6_layGroups_64 ?_
            refine lv_iload_n hx hb dX6_layGroups_67 rfl (lv_at hl 1 rfl) ?_
            refine nv_iald hx hb hK hP 1 0 rfl rfl i23 (by omega) (by decide) dX6_layGroups_68 ?_
            refine lv_aload_n hx hb dX6_layGroups_69 rfl (lv_at hl 2 rfl) ?_
            refine va_get (D := G) (ci := 4) (C := RX6) (T := TX6) (N := 15) hx hb hw in_X6 hown hK hP 0 rfl rfl 8 (by decide) (hw _ aw_879) (fun _ h9 => h9) rfl dX6_layGroups_70 ?_
            refine lv_iload_n hx hb dX6_layGroups_73 rfl (lv_at hl 0 rfl) ?_
            refine nv_iald hx hb hK hP 1 0 rfl rfl i33 (by omega) (by decide) dX6_layGroups_74 ?_
            have hM_19 : ∀ (v_18 : Int32) (ls : Array Slot) (H : Heap) (locs : List Loc), v_18 = (if (s33 i33) ≤ (s33 i23) then (s33 i33) else (s33 i23)) → lv_has ls 7 [(3, .int (nI i33)), (2, .int (nI i23)), (0, .ref (q 0)), (1, .ref a)] → va_P G classes [mdC q refusal isShot states length at_ good runs did, rwC (q 6) cI 8 s33, rwC a cI 129 row].flatten H → va_D A [mdC q refusal isShot states length at_ good runs did, rwC (q 6) cI 8 s33, rwC a cI 129 row].flatten → va_S A s.heap H locs → W p l e ({ frames := 2, cells := 0, slots := 0, locals := 43 } : Room) s m args below meth c H locs 0 0 QQ (F0 m 93 ls [.int v_18]) := by
              intro v_18 ls H locs e_v_18 hl hP hD hS
              subst e_v_18
              refine lv_istore (lv' := [(4, .int (if (s33 i33) ≤ (s33 i23) then (s33 i33) else (s33 i23))), (3, .int (nI i33)), (2, .int (nI i23)), (0, .ref (q 0)), (1, .ref a)]) hx hb dX6_layGroups_93 hl (by decide) rfl (fun ls hl => ?_)
              refine lv_aload_n hx hb dX6_layGroups_95 rfl (lv_at hl 3 rfl) ?_
              refine va_get (D := G) (ci := 4) (C := RX6) (T := TX6) (N := 15) hx hb hw in_X6 hown hK hP 0 rfl rfl 8 (by decide) (hw _ aw_879) (fun _ h9 => h9) rfl dX6_layGroups_96 ?_
              refine lv_iload_n hx hb dX6_layGroups_99 rfl (lv_at hl 2 rfl) ?_
              refine nv_iald hx hb hK hP 1 0 rfl rfl i23 (by omega) (by decide) dX6_layGroups_100 ?_
              refine lv_aload_n hx hb dX6_layGroups_101 rfl (lv_at hl 3 rfl) ?_
              refine va_get (D := G) (ci := 4) (C := RX6) (T := TX6) (N := 15) hx hb hw in_X6 hown hK hP 0 rfl rfl 8 (by decide) (hw _ aw_879) (fun _ h9 => h9) rfl dX6_layGroups_102 ?_
              refine lv_iload_n hx hb dX6_layGroups_105 rfl (lv_at hl 1 rfl) ?_
              refine nv_iald hx hb hK hP 1 0 rfl rfl i33 (by omega) (by decide) dX6_layGroups_106 ?_
              have hM_24 : ∀ (v_23 : Int32) (ls : Array Slot) (H : Heap) (locs : List Loc), v_23 = (if (s33 i33) ≤ (s33 i23) then (s33 i23) else (s33 i33)) → lv_has ls 7 [(4, .int (if (s33 i33) ≤ (s33 i23) then (s33 i33) else (s33 i23))), (3, .int (nI i33)), (2, .int (nI i23)), (0, .ref (q 0)), (1, .ref a)] → va_P G classes [mdC q refusal isShot states length at_ good runs did, rwC (q 6) cI 8 s33, rwC a cI 129 row].flatten H → va_D A [mdC q refusal isShot states length at_ good runs did, rwC (q 6) cI 8 s33, rwC a cI 129 row].flatten → va_S A s.heap H locs → W p l e ({ frames := 2, cells := 0, slots := 0, locals := 43 } : Room) s m args below meth c H locs 0 0 QQ (F0 m 125 ls [.int v_23]) := by
                intro v_23 ls H locs e_v_23 hl hP hD hS
                subst e_v_23
                refine lv_istore (lv' := [(5, .int (if (s33 i33) ≤ (s33 i23) then (s33 i23) else (s33 i33))), (4, .int (if (s33 i33) ≤ (s33 i23) then (s33 i33) else (s33 i23))), (3, .int (nI i33)), (2, .int (nI i23)), (0, .ref (q 0)), (1, .ref a)]) hx hb dX6_layGroups_125 hl (by decide) rfl (fun ls hl => ?_)
                refine lv_iconst (v := 0) hx hb dX6_layGroups_127 (by decide) ?_
                refine lv_istore (lv' := [(6, .int (0 : Int32)), (5, .int (if (s33 i33) ≤ (s33 i23) then (s33 i23) else (s33 i33))), (4, .int (if (s33 i33) ≤ (s33 i23) then (s33 i33) else (s33 i23))), (3, .int (nI i33)), (2, .int (nI i23)), (0, .ref (q 0)), (1, .ref a)]) hx hb dX6_layGroups_128 hl (by decide) rfl (fun ls hl => ?_)
                refine it_loop (f := (L_X6_layGroups_130 i23 i33 s33)) 8 (fun (i130 : Nat) (s130 : (Nat → Int32)) => ∀ (ls : Array Slot) (H : Heap) (locs : List Loc), lv_has ls 7 [(6, .int (nI i130)), (5, .int (if (s33 i33) ≤ (s33 i23) then (s33 i23) else (s33 i33))), (4, .int (if (s33 i33) ≤ (s33 i23) then (s33 i33) else (s33 i23))), (3, .int (nI i33)), (2, .int (nI i23)), (0, .ref (q 0)), (1, .ref a)] → va_P G classes [mdC q refusal isShot states length at_ good runs did, rwC (q 6) cI 8 s130, rwC a cI 129 row].flatten H → va_D A [mdC q refusal isShot states length at_ good runs did, rwC (q 6) cI 8 s130, rwC a cI 129 row].flatten → va_S A s.heap H locs → W p l e ({ frames := 2, cells := 0, slots := 0, locals := 43 } : Room) s m args below meth c H locs 0 0 QQ (F0 m 130 ls [])) (fun i130 s130 hi130 ih => ?_) 8 0 s33 (by omega) ?_ ls _ _ (lv_sub hl [0, 1, 2, 3, 4, 5, 6] rfl) hP hD hS
                · intro ls H locs hl hP hD hS
                  refine lv_iload hx hb dX6_layGroups_130 (lv_at hl 0 rfl) ?_
                  refine lv_bipush (v := 8) hx hb dX6_layGroups_132 (by decide) ?_
                  refine nv_ge hx hb i130 8 174 (by omega) (by omega) dX6_layGroups_134 (by decide) (fun hc => absurd hc (by omega)) (fun _ => ?_)
                  refine lv_aload_n hx hb dX6_layGroups_137 rfl (lv_at hl 5 rfl) ?_
                  refine va_get (D := G) (ci := 4) (C := RX6) (T := TX6) (N := 15) hx hb hw in_X6 hown hK hP 0 rfl rfl 8 (by decide) (hw _ aw_879) (fun _ h9 => h9) rfl dX6_layGroups_138 ?_
                  refine lv_iload hx hb dX6_layGroups_141 (lv_at hl 0 rfl) ?_
                  refine lv_aload_n hx hb dX6_layGroups_143 rfl (lv_at hl 5 rfl) ?_
                  refine va_get (D := G) (ci := 4) (C := RX6) (T := TX6) (N := 15) hx hb hw in_X6 hown hK hP 0 rfl rfl 8 (by decide) (hw _ aw_879) (fun _ h9 => h9) rfl dX6_layGroups_144 ?_
                  refine lv_iload hx hb dX6_layGroups_147 (lv_at hl 0 rfl) ?_
                  refine nv_iald hx hb hK hP 1 0 rfl rfl i130 (by omega) (by decide) dX6_layGroups_149 ?_
                  refine lv_iload hx hb dX6_layGroups_150 (lv_at hl 1 rfl) ?_
                  have hM_31 : ∀ (v_30 : Int32) (ls : Array Slot) (H : Heap) (locs : List Loc), v_30 = (if (s130 i130) = (if (s33 i33) ≤ (s33 i23) then (s33 i23) else (s33 i33)) then (if (s33 i33) ≤ (s33 i23) then (s33 i33) else (s33 i23)) else (s130 i130)) → lv_has ls 7 [(6, .int (nI i130)), (5, .int (if (s33 i33) ≤ (s33 i23) then (s33 i23) else (s33 i33))), (4, .int (if (s33 i33) ≤ (s33 i23) then (s33 i33) else (s33 i23))), (3, .int (nI i33)), (2, .int (nI i23)), (0, .ref (q 0)), (1, .ref a)] → va_P G classes [mdC q refusal isShot states length at_ good runs did, rwC (q 6) cI 8 s130, rwC a cI 129 row].flatten H → va_D A [mdC q refusal isShot states length at_ good runs did, rwC (q 6) cI 8 s130, rwC a cI 129 row].flatten → va_S A s.heap H locs → W p l e ({ frames := 2, cells := 0, slots := 0, locals := 43 } : Room) s m args below meth c H locs 0 0 QQ (F0 m 167 ls [.int v_30, .int (nI i130), .ref (q 6)]) := by
                    intro v_30 ls H locs e_v_30 hl hP hD hS
                    subst e_v_30
                    refine nv_iast hx hb hK hP hD hS 1 0 rfl rfl i130 (by omega) (by decide) dX6_layGroups_167 (ws' := [mdC q refusal isShot states length at_ good runs did, rwC (q 6) cI 8 (upd s130 i130 (if (s130 i130) = (if (s33 i33) ≤ (s33 i23) then (s33 i23) else (s33 i33)) then (if (s33 i33) ≤ (s33 i23) then (s33 i33) else (s33 i23)) else (s130 i130))), rwC a cI 129 row].flatten) rfl (fun H locs hP hD hS => ?_)
                    refine nv_iinc (k := 0) (lv' := [(6, .int (nI (i130 + 1))), (5, .int (if (s33 i33) ≤ (s33 i23) then (s33 i23) else (s33 i33))), (4, .int (if (s33 i33) ≤ (s33 i23) then (s33 i33) else (s33 i23))), (3, .int (nI i33)), (2, .int (nI i23)), (0, .ref (q 0)), (1, .ref a)]) hx hb i130 dX6_layGroups_168 hl rfl (by decide) rfl (fun ls hl => ?_)
                    refine lv_goto (tgt := 130) hx hb dX6_layGroups_171 (by decide) ?_
                    exact ih _ _ _ (lv_sub hl [0, 1, 2, 3, 4, 5, 6] rfl) hP hD hS
                  refine iv_ne hx hb 160 dX6_layGroups_152 (by decide) (fun c_27 => ?_) (fun c_27 => ?_)
                  · refine lv_aload_n hx hb dX6_layGroups_160 rfl (lv_at hl 5 rfl) ?_
                    refine va_get (D := G) (ci := 4) (C := RX6) (T := TX6) (N := 15) hx hb hw in_X6 hown hK hP 0 rfl rfl 8 (by decide) (hw _ aw_879) (fun _ h9 => h9) rfl dX6_layGroups_161 ?_
                    refine lv_iload hx hb dX6_layGroups_164 (lv_at hl 0 rfl) ?_
                    refine nv_iald hx hb hK hP 1 0 rfl rfl i130 (by omega) (by decide) dX6_layGroups_166 ?_
                    exact hM_31 (s130 i130) _ _ _ (if_neg c_27).symm (lv_sub hl [0, 1, 2, 3, 4, 5, 6] rfl) hP hD hS
                  · refine lv_iload hx hb dX6_layGroups_155 (lv_at hl 2 rfl) ?_
                    refine lv_goto (tgt := 167) hx hb dX6_layGroups_157 (by decide) ?_
                    exact hM_31 (if (s33 i33) ≤ (s33 i23) then (s33 i33) else (s33 i23)) _ _ _ (if_pos c_27).symm (lv_sub hl [0, 1, 2, 3, 4, 5, 6] rfl) hP hD hS
                · intro ls H locs hl hP hD hS
                  refine lv_iload hx hb dX6_layGroups_130 (lv_at hl 0 rfl) ?_
                  refine lv_bipush (v := 8) hx hb dX6_layGroups_132 (by decide) ?_
                  refine nv_ge hx hb 8 8 174 (by omega) (by omega) dX6_layGroups_134 (by decide) (fun _ => ?_) (fun hc => absurd hc (by omega))
                  exact hM_38 (it (L_X6_layGroups_130 i23 i33 s33) 0 8 s33) _ _ _ (if_neg c_13).symm (lv_sub hl [3, 4, 5, 6] rfl) hP hD hS
              refine lv_icmp_ge (tgt := 119) hx hb dX6_layGroups_107 (by decide) (fun c_20 => ?_) (fun c_20 => ?_)
              · refine lv_aload_n hx hb dX6_layGroups_119 rfl (lv_at hl 3 rfl) ?_
                refine va_get (D := G) (ci := 4) (C := RX6) (T := TX6) (N := 15) hx hb hw in_X6 hown hK hP 0 rfl rfl 8 (by decide) (hw _ aw_879) (fun _ h9 => h9) rfl dX6_layGroups_120 ?_
                refine lv_iload_n hx hb dX6_layGroups_123 rfl (lv_at hl 2 rfl) ?_
                refine nv_iald hx hb hK hP 1 0 rfl rfl i23 (by omega) (by decide) dX6_layGroups_124 ?_
                exact hM_24 (s33 i23) _ _ _ (if_pos c_20).symm (lv_sub hl [0, 1, 2, 3, 4] rfl) hP hD hS
              · refine lv_aload_n hx hb dX6_layGroups_110 rfl (lv_at hl 3 rfl) ?_
                refine va_get (D := G) (ci := 4) (C := RX6) (T := TX6) (N := 15) hx hb hw in_X6 hown hK hP 0 rfl rfl 8 (by decide) (hw _ aw_879) (fun _ h9 => h9) rfl dX6_layGroups_111 ?_
                refine lv_iload_n hx hb dX6_layGroups_114 rfl (lv_at hl 1 rfl) ?_
                refine nv_iald hx hb hK hP 1 0 rfl rfl i33 (by omega) (by decide) dX6_layGroups_115 ?_
                refine lv_goto (tgt := 125) hx hb dX6_layGroups_116 (by decide) ?_
                exact hM_24 (s33 i33) _ _ _ (if_neg c_20).symm (lv_sub hl [0, 1, 2, 3, 4] rfl) hP hD hS
            refine lv_icmp_ge (tgt := 87) hx hb dX6_layGroups_75 (by decide) (fun c_15 => ?_) (fun c_15 => ?_)
            · refine lv_aload_n hx hb dX6_layGroups_87 rfl (lv_at hl 2 rfl) ?_
              refine va_get (D := G) (ci := 4) (C := RX6) (T := TX6) (N := 15) hx hb hw in_X6 hown hK hP 0 rfl rfl 8 (by decide) (hw _ aw_879) (fun _ h9 => h9) rfl dX6_layGroups_88 ?_
              refine lv_iload_n hx hb dX6_layGroups_91 rfl (lv_at hl 0 rfl) ?_
              refine nv_iald hx hb hK hP 1 0 rfl rfl i33 (by omega) (by decide) dX6_layGroups_92 ?_
              exact hM_19 (s33 i33) _ _ _ (if_pos c_15).symm (lv_sub hl [0, 1, 2, 3] rfl) hP hD hS
            · refine lv_aload_n hx hb dX6_layGroups_78 rfl (lv_at hl 2 rfl) ?_
              refine va_get (D := G) (ci := 4) (C := RX6) (T := TX6) (N := 15) hx hb hw in_X6 hown hK hP 0 rfl rfl 8 (by decide) (hw _ aw_879) (fun _ h9 => h9) rfl dX6_layGroups_79 ?_
              refine lv_iload_n hx hb dX6_layGroups_82 rfl (lv_at hl 1 rfl) ?_
              refine nv_iald hx hb hK hP 1 0 rfl rfl i23 (by omega) (by decide) dX6_layGroups_83 ?_
              refine lv_goto (tgt := 93) hx hb dX6_layGroups_84 (by decide) ?_
              exact hM_19 (s33 i23) _ _ _ (if_neg c_15).symm (lv_sub hl [0, 1, 2, 3] rfl) hP hD hS
      · intro ls H locs hl hP hD hS
        refine lv_iload_n hx hb dX6_layGroups_33 rfl (lv_at hl 0 rfl) ?_
        refine lv_bipush (v := 8) hx hb dX6_layGroups_34 (by decide) ?_
        refine nv_ge hx hb 8 8 180 (by omega) (by omega) dX6_layGroups_36 (by decide) (fun _ => ?_) (fun hc => absurd hc (by omega))
        refine nv_iinc (k := 1) (lv' := [(2, .int (nI (i23 + 1))), (3, .int (nI 8)), (0, .ref (q 0)), (1, .ref a)]) hx hb i23 dX6_layGroups_180 hl rfl (by decide) rfl (fun ls hl => ?_)
        refine lv_goto (tgt := 23) hx hb dX6_layGroups_183 (by decide) ?_
        exact ih _ _ _ (lv_sub hl [0, 2, 3] rfl) hP hD hS
    · intro ls H locs hl hP hD hS
      refine lv_iload_n hx hb dX6_layGroups_23 rfl (lv_at hl 0 rfl) ?_
      refine lv_bipush (v := 8) hx hb dX6_layGroups_24 (by decide) ?_
      refine nv_ge hx hb 8 8 186 (by omega) (by omega) dX6_layGroups_26 (by decide) (fun _ => ?_) (fun hc => absurd hc (by omega))
      rw [← hQQ]; exact W.vret hx hb hr (ct_end (F := (f_X6_layGroups group row)) (u := (it (L_X6_layGroups_23 row) 0 8 (it L_X6_layGroups_2 0 8 group))) (rf := (fun _ => none)) (wf := (fun u => [mdC q refusal isShot states length at_ good runs did, rwC (q 6) cI 8 u, rwC a cI 129 row].flatten)) rfl rfl hP hD hS) hS.2.2 dX6_layGroups_186
set_option maxRecDepth 100000 in
set_option maxHeartbeats 4000000 in
theorem k_X6_groupSet (l : Launch) (G : va_G) (cI cS cL : ClassId) (q : Nat → Nat) (a : Nat) (refusal : Int32) (isShot : Bool) (states : Nat) (length : Nat) (at_ : Nat) (good : Bool) (runs : Bool) (did : Int32) (group : Nat → Int32) (row : Nat → Int32) (k : Nat) (hk : k < 8) : Ct l G (tyl cI cS cL) yX6_groupSet cX6_groupSet 5 (some (Jvm.ClassFile.FieldType.int)) 3 69 0 0 [.ref (q 0), .ref a, .int (nI k)] [mdC q refusal isShot states length at_ good runs did, rwC (q 6) cI 8 group, rwC a cI 129 row].flatten (f_X6_groupSet group row k) (fun u => some (.int u.1)) (fun u => [mdC q refusal isShot states length at_ good runs did, rwC (q 6) cI 8 u.2, rwC a cI 129 row].flatten) := by
  refine Ct.of (by decide +kernel) (Nat.le_of_ble_eq_true rfl) ?_
  intro p e s m args below meth c A ls hx hb hr hml hw hown hlocks hin hK hN hP hD hS hA hl
  have hown : s.vm.findClass RX6 = some m.cls := hown
  have X : Cx p s m args c cX6_groupSet 5 RX6 G (tyl cI cS cL) := ⟨hx, hb, hml, hown, hw, hK, hN⟩
  have hP : va_P G classes [mdC q refusal isShot states length at_ good runs did, rwC (q 6) cI 8 group, rwC a cI 129 row].flatten s.heap := hP
  have hl : lv_has ls 5 [(0, .ref (q 0)), (1, .ref a), (2, .int (nI k))] := hl
  generalize hQQ : MQ below _ args s 0 0 A = QQ
  refine lv_aload_n hx hb dX6_groupSet_0 rfl (lv_at hl 0 rfl) ?_
  refine lv_aload_n hx hb dX6_groupSet_1 rfl (lv_at hl 1 rfl) ?_
  refine ct_callV (As := [.ref a]) (rest := []) X hP hD hS hA (k_X6_layGroups l G cI cS cL q a refusal isShot states length at_ good runs did group row) cp_X6_layGroups aw_1100 ⟨Nat.le_of_ble_eq_true rfl, Nat.le_of_ble_eq_true rfl⟩ [0, 1, 2] (cs := [mdC q refusal isShot states length at_ good runs did, rwC (q 6) cI 8 group, rwC a cI 129 row]) rfl (by decide) (cs' := [mdC q refusal isShot states length at_ good runs did, rwC (q 6) cI 8 (f_X6_layGroups group row), rwC a cI 129 row]) rfl rfl 4 rfl rfl (q0 := 0) rfl rfl hl.1 rfl (Nat.le_of_ble_eq_true rfl) dX6_groupSet_2 ⟨Nat.zero_le _, Nat.zero_le _⟩ rfl (bs' := [mdC q refusal isShot states length at_ good runs did, rwC (q 6) cI 8 (f_X6_layGroups group row), rwC a cI 129 row]) rfl (fun H locs hP hD hS => ?_)
  refine lv_iconst (v := 0) hx hb dX6_groupSet_5 (by decide) ?_
  refine lv_istore_n (lv' := [(3, .int (0 : Int32)), (0, .ref (q 0)), (1, .ref a), (2, .int (nI k))]) hx hb dX6_groupSet_6 rfl hl (by decide) rfl (fun ls hl => ?_)
  refine lv_iconst (v := 0) hx hb dX6_groupSet_7 (by decide) ?_
  refine lv_istore (lv' := [(4, .int (0 : Int32)), (3, .int (0 : Int32)), (0, .ref (q 0)), (1, .ref a), (2, .int (nI k))]) hx hb dX6_groupSet_8 hl (by decide) rfl (fun ls hl => ?_)
  refine it_loop (f := (L_X6_groupSet_10 group row k)) 8 (fun (i10 : Nat) (s10 : Int32) => ∀ (ls : Array Slot) (H : Heap) (locs : List Loc), lv_has ls 5 [(4, .int (nI i10)), (3, .int s10), (0, .ref (q 0)), (2, .int (nI k))] → va_P G classes [mdC q refusal isShot states length at_ good runs did, rwC (q 6) cI 8 (f_X6_layGroups group row), rwC a cI 129 row].flatten H → va_D A [mdC q refusal isShot states length at_ good runs did, rwC (q 6) cI 8 (f_X6_layGroups group row), rwC a cI 129 row].flatten → va_S A s.heap H locs → W p l e ({ frames := 3, cells := 0, slots := 0, locals := 69 } : Room) s m args below meth c H locs 0 0 QQ (F0 m 10 ls [])) (fun i10 s10 hi10 ih => ?_) 8 0 (0 : Int32) (by omega) ?_ ls _ _ (lv_sub hl [0, 1, 2, 4] rfl) hP hD hS
  · intro ls H locs hl hP hD hS
    refine lv_iload hx hb dX6_groupSet_10 (lv_at hl 0 rfl) ?_
    refine lv_bipush (v := 8) hx hb dX6_groupSet_12 (by decide) ?_
    refine nv_ge hx hb i10 8 50 (by omega) (by omega) dX6_groupSet_14 (by decide) (fun hc => absurd hc (by omega)) (fun _ => ?_)
    refine lv_iload_n hx hb dX6_groupSet_17 rfl (lv_at hl 1 rfl) ?_
    refine lv_aload_n hx hb dX6_groupSet_18 rfl (lv_at hl 2 rfl) ?_
    refine va_get (D := G) (ci := 4) (C := RX6) (T := TX6) (N := 15) hx hb hw in_X6 hown hK hP 0 rfl rfl 8 (by decide) (hw _ aw_879) (fun _ h9 => h9) rfl dX6_groupSet_19 ?_
    refine lv_iload hx hb dX6_groupSet_22 (lv_at hl 0 rfl) ?_
    refine nv_iald hx hb hK hP 1 0 rfl rfl i10 (by omega) (by decide) dX6_groupSet_24 ?_
    refine lv_aload_n hx hb dX6_groupSet_25 rfl (lv_at hl 2 rfl) ?_
    refine va_get (D := G) (ci := 4) (C := RX6) (T := TX6) (N := 15) hx hb hw in_X6 hown hK hP 0 rfl rfl 8 (by decide) (hw _ aw_879) (fun _ h9 => h9) rfl dX6_groupSet_26 ?_
    refine lv_iload_n hx hb dX6_groupSet_29 rfl (lv_at hl 3 rfl) ?_
    refine nv_iald hx hb hK hP 1 0 rfl rfl k (by omega) (by decide) dX6_groupSet_30 ?_
    have hM_7 : ∀ (v_6 : Int32) (ls : Array Slot) (H : Heap) (locs : List Loc), v_6 = (if ((f_X6_layGroups group row) i10) = ((f_X6_layGroups group row) k) then ((1 : Int32) <<< ((nI i10) &&& 31)) else (0 : Int32)) → lv_has ls 5 [(4, .int (nI i10)), (0, .ref (q 0)), (2, .int (nI k))] → va_P G classes [mdC q refusal isShot states length at_ good runs did, rwC (q 6) cI 8 (f_X6_layGroups group row), rwC a cI 129 row].flatten H → va_D A [mdC q refusal isShot states length at_ good runs did, rwC (q 6) cI 8 (f_X6_layGroups group row), rwC a cI 129 row].flatten → va_S A s.heap H locs → W p l e ({ frames := 3, cells := 0, slots := 0, locals := 69 } : Room) s m args below meth c H locs 0 0 QQ (F0 m 42 ls [.int v_6, .int s10]) := by
      intro v_6 ls H locs e_v_6 hl hP hD hS
      subst e_v_6
      refine lv_ior hx hb dX6_groupSet_42 ?_
      refine lv_istore_n (lv' := [(3, .int (s10 ||| (if ((f_X6_layGroups group row) i10) = ((f_X6_layGroups group row) k) then ((1 : Int32) <<< ((nI i10) &&& 31)) else (0 : Int32)))), (4, .int (nI i10)), (0, .ref (q 0)), (2, .int (nI k))]) hx hb dX6_groupSet_43 rfl hl (by decide) rfl (fun ls hl => ?_)
      refine nv_iinc (k := 1) (lv' := [(4, .int (nI (i10 + 1))), (3, .int (s10 ||| (if ((f_X6_layGroups group row) i10) = ((f_X6_layGroups group row) k) then ((1 : Int32) <<< ((nI i10) &&& 31)) else (0 : Int32)))), (0, .ref (q 0)), (2, .int (nI k))]) hx hb i10 dX6_groupSet_44 hl rfl (by decide) rfl (fun ls hl => ?_)
      refine lv_goto (tgt := 10) hx hb dX6_groupSet_47 (by decide) ?_
      exact ih _ _ _ (lv_sub hl [0, 1, 2, 3] rfl) hP hD hS
    refine iv_ne hx hb 41 dX6_groupSet_31 (by decide) (fun c_3 => ?_) (fun c_3 => ?_)
    · refine lv_iconst (v := 0) hx hb dX6_groupSet_41 (by decide) ?_
      exact hM_7 (0 : Int32) _ _ _ (if_neg c_3).symm (lv_sub hl [0, 2, 3] rfl) hP hD hS
    · refine lv_iconst (v := 1) hx hb dX6_groupSet_34 (by decide) ?_
      refine lv_iload hx hb dX6_groupSet_35 (lv_at hl 0 rfl) ?_
      refine lv_ishl hx hb dX6_groupSet_37 ?_
      refine lv_goto (tgt := 42) hx hb dX6_groupSet_38 (by decide) ?_
      exact hM_7 ((1 : Int32) <<< ((nI i10) &&& 31)) _ _ _ (if_pos c_3).symm (lv_sub hl [0, 2, 3] rfl) hP hD hS
  · intro ls H locs hl hP hD hS
    refine lv_iload hx hb dX6_groupSet_10 (lv_at hl 0 rfl) ?_
    refine lv_bipush (v := 8) hx hb dX6_groupSet_12 (by decide) ?_
    refine nv_ge hx hb 8 8 50 (by omega) (by omega) dX6_groupSet_14 (by decide) (fun _ => ?_) (fun hc => absurd hc (by omega))
    refine lv_iload_n hx hb dX6_groupSet_50 rfl (lv_at hl 1 rfl) ?_
    rw [← hQQ]; exact W.iret hx hb hr (ct_end (F := (f_X6_groupSet group row k)) (u := ((it (L_X6_groupSet_10 group row k) 0 8 (0 : Int32)), (f_X6_layGroups group row))) (rf := (fun u => some (.int u.1))) (wf := (fun u => [mdC q refusal isShot states length at_ good runs did, rwC (q 6) cI 8 u.2, rwC a cI 129 row].flatten)) rfl rfl hP hD hS) hS.2.2 dX6_groupSet_51
set_option maxRecDepth 100000 in
set_option maxHeartbeats 4000000 in
theorem k_X6_groups (l : Launch) (G : va_G) (cI cS cL : ClassId) (q : Nat → Nat) (a : Nat) (refusal : Int32) (isShot : Bool) (states : Nat) (length : Nat) (at_ : Nat) (good : Bool) (runs : Bool) (did : Int32) (group : Nat → Int32) (row : Nat → Int32) : Ct l G (tyl cI cS cL) yX6_groups cX6_groups 4 (some (Jvm.ClassFile.FieldType.int)) 3 69 0 0 [.ref (q 0), .ref a] [mdC q refusal isShot states length at_ good runs did, rwC (q 6) cI 8 group, rwC a cI 129 row].flatten (f_X6_groups group row) (fun u => some (.int u.1)) (fun u => [mdC q refusal isShot states length at_ good runs did, rwC (q 6) cI 8 u.2, rwC a cI 129 row].flatten) := by
  refine Ct.of (by decide +kernel) (Nat.le_of_ble_eq_true rfl) ?_
  intro p e s m args below meth c A ls hx hb hr hml hw hown hlocks hin hK hN hP hD hS hA hl
  have hown : s.vm.findClass RX6 = some m.cls := hown
  have X : Cx p s m args c cX6_groups 4 RX6 G (tyl cI cS cL) := ⟨hx, hb, hml, hown, hw, hK, hN⟩
  have hP : va_P G classes [mdC q refusal isShot states length at_ good runs did, rwC (q 6) cI 8 group, rwC a cI 129 row].flatten s.heap := hP
  have hl : lv_has ls 4 [(0, .ref (q 0)), (1, .ref a)] := hl
  generalize hQQ : MQ below _ args s 0 0 A = QQ
  refine lv_aload_n hx hb dX6_groups_0 rfl (lv_at hl 0 rfl) ?_
  refine lv_aload_n hx hb dX6_groups_1 rfl (lv_at hl 1 rfl) ?_
  refine ct_callV (As := [.ref a]) (rest := []) X hP hD hS hA (k_X6_layGroups l G cI cS cL q a refusal isShot states length at_ good runs did group row) cp_X6_layGroups aw_1100 ⟨Nat.le_of_ble_eq_true rfl, Nat.le_of_ble_eq_true rfl⟩ [0, 1, 2] (cs := [mdC q refusal isShot states length at_ good runs did, rwC (q 6) cI 8 group, rwC a cI 129 row]) rfl (by decide) (cs' := [mdC q refusal isShot states length at_ good runs did, rwC (q 6) cI 8 (f_X6_layGroups group row), rwC a cI 129 row]) rfl rfl 4 rfl rfl (q0 := 0) rfl rfl hl.1 rfl (Nat.le_of_ble_eq_true rfl) dX6_groups_2 ⟨Nat.zero_le _, Nat.zero_le _⟩ rfl (bs' := [mdC q refusal isShot states length at_ good runs did, rwC (q 6) cI 8 (f_X6_layGroups group row), rwC a cI 129 row]) rfl (fun H locs hP hD hS => ?_)
  refine lv_iconst (v := 0) hx hb dX6_groups_5 (by decide) ?_
  refine lv_istore_n (lv' := [(2, .int (0 : Int32)), (0, .ref (q 0)), (1, .ref a)]) hx hb dX6_groups_6 rfl hl (by decide) rfl (fun ls hl => ?_)
  refine lv_iconst (v := 0) hx hb dX6_groups_7 (by decide) ?_
  refine lv_istore_n (lv' := [(3, .int (0 : Int32)), (2, .int (0 : Int32)), (0, .ref (q 0)), (1, .ref a)]) hx hb dX6_groups_8 rfl hl (by decide) rfl (fun ls hl => ?_)
  refine it_loop (f := (L_X6_groups_9 group row)) 8 (fun (i9 : Nat) (s9 : Int32) => ∀ (ls : Array Slot) (H : Heap) (locs : List Loc), lv_has ls 4 [(3, .int (nI i9)), (2, .int s9), (0, .ref (q 0))] → va_P G classes [mdC q refusal isShot states length at_ good runs did, rwC (q 6) cI 8 (f_X6_layGroups group row), rwC a cI 129 row].flatten H → va_D A [mdC q refusal isShot states length at_ good runs did, rwC (q 6) cI 8 (f_X6_layGroups group row), rwC a cI 129 row].flatten → va_S A s.heap H locs → W p l e ({ frames := 3, cells := 0, slots := 0, locals := 69 } : Room) s m args below meth c H locs 0 0 QQ (F0 m 9 ls [])) (fun i9 s9 hi9 ih => ?_) 8 0 (0 : Int32) (by omega) ?_ ls _ _ (lv_sub hl [0, 1, 2] rfl) hP hD hS
  · intro ls H locs hl hP hD hS
    refine lv_iload_n hx hb dX6_groups_9 rfl (lv_at hl 0 rfl) ?_
    refine lv_bipush (v := 8) hx hb dX6_groups_10 (by decide) ?_
    refine nv_ge hx hb i9 8 39 (by omega) (by omega) dX6_groups_12 (by decide) (fun hc => absurd hc (by omega)) (fun _ => ?_)
    refine lv_iload_n hx hb dX6_groups_15 rfl (lv_at hl 1 rfl) ?_
    refine lv_aload_n hx hb dX6_groups_16 rfl (lv_at hl 2 rfl) ?_
    refine va_get (D := G) (ci := 4) (C := RX6) (T := TX6) (N := 15) hx hb hw in_X6 hown hK hP 0 rfl rfl 8 (by decide) (hw _ aw_879) (fun _ h9 => h9) rfl dX6_groups_17 ?_
    refine lv_iload_n hx hb dX6_groups_20 rfl (lv_at hl 0 rfl) ?_
    refine nv_iald hx hb hK hP 1 0 rfl rfl i9 (by omega) (by decide) dX6_groups_21 ?_
    refine lv_iload_n hx hb dX6_groups_22 rfl (lv_at hl 0 rfl) ?_
    have hM_7 : ∀ (v_6 : Bool) (ls : Array Slot) (H : Heap) (locs : List Loc), v_6 = (if ((f_X6_layGroups group row) i9) = (nI i9) then true else false) → lv_has ls 4 [(3, .int (nI i9)), (0, .ref (q 0))] → va_P G classes [mdC q refusal isShot states length at_ good runs did, rwC (q 6) cI 8 (f_X6_layGroups group row), rwC a cI 129 row].flatten H → va_D A [mdC q refusal isShot states length at_ good runs did, rwC (q 6) cI 8 (f_X6_layGroups group row), rwC a cI 129 row].flatten → va_S A s.heap H locs → W p l e ({ frames := 3, cells := 0, slots := 0, locals := 69 } : Room) s m args below meth c H locs 0 0 QQ (F0 m 31 ls [.int (bI v_6), .int s9]) := by
      intro v_6 ls H locs e_v_6 hl hP hD hS
      subst e_v_6
      refine lv_iadd hx hb dX6_groups_31 ?_
      refine lv_istore_n (lv' := [(2, .int (s9 + (bI (if ((f_X6_layGroups group row) i9) = (nI i9) then true else false)))), (3, .int (nI i9)), (0, .ref (q 0))]) hx hb dX6_groups_32 rfl hl (by decide) rfl (fun ls hl => ?_)
      refine nv_iinc (k := 1) (lv' := [(3, .int (nI (i9 + 1))), (2, .int (s9 + (bI (if ((f_X6_layGroups group row) i9) = (nI i9) then true else false)))), (0, .ref (q 0))]) hx hb i9 dX6_groups_33 hl rfl (by decide) rfl (fun ls hl => ?_)
      refine lv_goto (tgt := 9) hx hb dX6_groups_36 (by decide) ?_
      exact ih _ _ _ (lv_sub hl [0, 1, 2] rfl) hP hD hS
    refine iv_ne hx hb 30 dX6_groups_23 (by decide) (fun c_3 => ?_) (fun c_3 => ?_)
    · refine lv_iconst (v := 0) hx hb dX6_groups_30 (by decide) ?_
      exact hM_7 false _ _ _ (if_neg c_3).symm (lv_sub hl [0, 2] rfl) hP hD hS
    · refine lv_iconst (v := 1) hx hb dX6_groups_26 (by decide) ?_
      refine lv_goto (tgt := 31) hx hb dX6_groups_27 (by decide) ?_
      exact hM_7 true _ _ _ (if_pos c_3).symm (lv_sub hl [0, 2] rfl) hP hD hS
  · intro ls H locs hl hP hD hS
    refine lv_iload_n hx hb dX6_groups_9 rfl (lv_at hl 0 rfl) ?_
    refine lv_bipush (v := 8) hx hb dX6_groups_10 (by decide) ?_
    refine nv_ge hx hb 8 8 39 (by omega) (by omega) dX6_groups_12 (by decide) (fun _ => ?_) (fun hc => absurd hc (by omega))
    refine lv_iload_n hx hb dX6_groups_39 rfl (lv_at hl 1 rfl) ?_
    rw [← hQQ]; exact W.iret hx hb hr (ct_end (F := (f_X6_groups group row)) (u := ((it (L_X6_groups_9 group row) 0 8 (0 : Int32)), (f_X6_layGroups group row))) (rf := (fun u => some (.int u.1))) (wf := (fun u => [mdC q refusal isShot states length at_ good runs did, rwC (q 6) cI 8 u.2, rwC a cI 129 row].flatten)) rfl rfl hP hD hS) hS.2.2 dX6_groups_40
set_option maxRecDepth 100000 in
set_option maxHeartbeats 4000000 in
theorem k_X6_walked (l : Launch) (G : va_G) (cI cS cL : ClassId) (a : Nat) (row : Nat → Int32) : Ct l G (tyl cI cS cL) yX6_walked cX6_walked 8 (some (Jvm.ClassFile.FieldType.int)) 2 43 0 0 [.ref a] [rwC a cI 129 row].flatten (f_X6_walked row) (fun u => some (.int u)) (fun _ => [rwC a cI 129 row].flatten) := by
  refine Ct.of (by decide +kernel) (Nat.le_of_ble_eq_true rfl) ?_
  intro p e s m args below meth c A ls hx hb hr hml hw hown hlocks hin hK hN hP hD hS hA hl
  have hown : s.vm.findClass RX6 = some m.cls := hown
  have X : Cx p s m args c cX6_walked 8 RX6 G (tyl cI cS cL) := ⟨hx, hb, hml, hown, hw, hK, hN⟩
  have hP : va_P G classes [rwC a cI 129 row].flatten s.heap := hP
  have hl : lv_has ls 8 [(0, .ref a)] := hl
  generalize hQQ : MQ below _ args s 0 0 A = QQ
  refine lv_iconst (v := 0) hx hb dX6_walked_0 (by decide) ?_
  refine lv_istore_n (lv' := [(1, .int (0 : Int32)), (0, .ref a)]) hx hb dX6_walked_1 rfl hl (by decide) rfl (fun ls hl => ?_)
  refine lv_iconst (v := 0) hx hb dX6_walked_2 (by decide) ?_
  refine lv_istore_n (lv' := [(2, .int (0 : Int32)), (1, .int (0 : Int32)), (0, .ref a)]) hx hb dX6_walked_3 rfl hl (by decide) rfl (fun ls hl => ?_)
  refine lv_iconst (v := 0) hx hb dX6_walked_4 (by decide) ?_
  refine lv_istore_n (lv' := [(3, .int (0 : Int32)), (2, .int (0 : Int32)), (1, .int (0 : Int32)), (0, .ref a)]) hx hb dX6_walked_5 rfl hl (by decide) rfl (fun ls hl => ?_)
  refine it_loop (f := (L_X6_walked_6 row)) 8 (fun (i6 : Nat) (s6 : Int32 × Int32) => ∀ (ls : Array Slot) (H : Heap) (locs : List Loc), lv_has ls 8 [(3, .int (nI i6)), (2, .int s6.1), (1, .int s6.2), (0, .ref a)] → va_P G classes [rwC a cI 129 row].flatten H → va_D A [rwC a cI 129 row].flatten → va_S A s.heap H locs → W p l e ({ frames := 2, cells := 0, slots := 0, locals := 43 } : Room) s m args below meth c H locs 0 0 QQ (F0 m 6 ls [])) (fun i6 s6 hi6 ih => ?_) 8 0 ((0 : Int32), (0 : Int32)) (by omega) ?_ ls _ _ (lv_sub hl [0, 1, 2, 3] rfl) hP hD hS
  · intro ls H locs hl hP hD hS
    refine lv_iload_n hx hb dX6_walked_6 rfl (lv_at hl 0 rfl) ?_
    refine lv_bipush (v := 8) hx hb dX6_walked_7 (by decide) ?_
    refine nv_ge hx hb i6 8 122 (by omega) (by omega) dX6_walked_9 (by decide) (fun hc => absurd hc (by omega)) (fun _ => ?_)
    refine lv_iload_n hx hb dX6_walked_12 rfl (lv_at hl 2 rfl) ?_
    refine lv_iload_n hx hb dX6_walked_13 rfl (lv_at hl 0 rfl) ?_
    refine lv_ishr hx hb dX6_walked_14 ?_
    refine lv_iconst (v := 1) hx hb dX6_walked_15 (by decide) ?_
    refine lv_iand hx hb dX6_walked_16 ?_
    have hM_36 : ∀ (v_34 : Int32) (v_35 : Int32) (ls : Array Slot) (H : Heap) (locs : List Loc), v_34 = (if ((s6.2 >>> ((nI i6) &&& 31)) &&& (1 : Int32)) = 0 then (s6.2 ||| (it (L_X6_walked_31 row) 0 8 ((1 : Int32) <<< ((nI i6) &&& 31)))) else s6.2) → v_35 = (if ((s6.2 >>> ((nI i6) &&& 31)) &&& (1 : Int32)) = 0 then (s6.1 + (1 : Int32)) else s6.1) → lv_has ls 8 [(1, .int v_34), (2, .int v_35), (3, .int (nI i6)), (0, .ref a)] → va_P G classes [rwC a cI 129 row].flatten H → va_D A [rwC a cI 129 row].flatten → va_S A s.heap H locs → W p l e ({ frames := 2, cells := 0, slots := 0, locals := 43 } : Room) s m args below meth c H locs 0 0 QQ (F0 m 116 ls []) := by
      intro v_34 v_35 ls H locs e_v_34 e_v_35 hl hP hD hS
      subst e_v_34 e_v_35
      refine nv_iinc (k := 2) (lv' := [(3, .int (nI (i6 + 1))), (1, .int (if ((s6.2 >>> ((nI i6) &&& 31)) &&& (1 : Int32)) = 0 then (s6.2 ||| (it (L_X6_walked_31 row) 0 8 ((1 : Int32) <<< ((nI i6) &&& 31)))) else s6.2)), (2, .int (if ((s6.2 >>> ((nI i6) &&& 31)) &&& (1 : Int32)) = 0 then (s6.1 + (1 : Int32)) else s6.1)), (0, .ref a)]) hx hb i6 dX6_walked_116 hl rfl (by decide) rfl (fun ls hl => ?_)
      refine lv_goto (tgt := 6) hx hb dX6_walked_119 (by decide) ?_
      exact ih _ _ _ (lv_sub hl [0, 2, 1, 3] rfl) hP hD hS
    refine iv_ifne hx hb 116 dX6_walked_17 (by decide) (fun c_3 => ?_) (fun c_3 => ?_)
    · exact hM_36 s6.2 s6.1 _ _ _ (if_neg c_3).symm (if_neg c_3).symm (lv_sub hl [2, 1, 0, 3] rfl) hP hD hS
    · refine lv_iinc (v := (s6.1 + (1 : Int32))) (k := 1) (lv' := [(2, .int (s6.1 + (1 : Int32))), (3, .int (nI i6)), (1, .int s6.2), (0, .ref a)]) hx hb dX6_walked_20 hl rfl rfl (by decide) rfl (fun ls hl => ?_)
      refine lv_iconst (v := 1) hx hb dX6_walked_23 (by decide) ?_
      refine lv_iload_n hx hb dX6_walked_24 rfl (lv_at hl 1 rfl) ?_
      refine lv_ishl hx hb dX6_walked_25 ?_
      refine lv_istore (lv' := [(4, .int ((1 : Int32) <<< ((nI i6) &&& 31))), (2, .int (s6.1 + (1 : Int32))), (3, .int (nI i6)), (1, .int s6.2), (0, .ref a)]) hx hb dX6_walked_26 hl (by decide) rfl (fun ls hl => ?_)
      refine lv_iconst (v := 0) hx hb dX6_walked_28 (by decide) ?_
      refine lv_istore (lv' := [(5, .int (0 : Int32)), (4, .int ((1 : Int32) <<< ((nI i6) &&& 31))), (2, .int (s6.1 + (1 : Int32))), (3, .int (nI i6)), (1, .int s6.2), (0, .ref a)]) hx hb dX6_walked_29 hl (by decide) rfl (fun ls hl => ?_)
      refine it_loop (f := (L_X6_walked_31 row)) 8 (fun (i31 : Nat) (s31 : Int32) => ∀ (ls : Array Slot) (H : Heap) (locs : List Loc), lv_has ls 8 [(5, .int (nI i31)), (4, .int s31), (2, .int (s6.1 + (1 : Int32))), (3, .int (nI i6)), (1, .int s6.2), (0, .ref a)] → va_P G classes [rwC a cI 129 row].flatten H → va_D A [rwC a cI 129 row].flatten → va_S A s.heap H locs → W p l e ({ frames := 2, cells := 0, slots := 0, locals := 43 } : Room) s m args below meth c H locs 0 0 QQ (F0 m 31 ls [])) (fun i31 s31 hi31 ih => ?_) 8 0 ((1 : Int32) <<< ((nI i6) &&& 31)) (by omega) ?_ ls _ _ (lv_sub hl [0, 1, 2, 3, 4, 5] rfl) hP hD hS
      · intro ls H locs hl hP hD hS
        refine lv_iload hx hb dX6_walked_31 (lv_at hl 0 rfl) ?_
        refine lv_bipush (v := 8) hx hb dX6_walked_33 (by decide) ?_
        refine nv_ge hx hb i31 8 111 (by omega) (by omega) dX6_walked_35 (by decide) (fun hc => absurd hc (by omega)) (fun _ => ?_)
        refine lv_iconst (v := 0) hx hb dX6_walked_38 (by decide) ?_
        refine lv_istore (lv' := [(6, .int (0 : Int32)), (5, .int (nI i31)), (4, .int s31), (2, .int (s6.1 + (1 : Int32))), (3, .int (nI i6)), (1, .int s6.2), (0, .ref a)]) hx hb dX6_walked_39 hl (by decide) rfl (fun ls hl => ?_)
        refine it_loop (f := (L_X6_walked_41 row)) 8 (fun (i41 : Nat) (s41 : Int32) => ∀ (ls : Array Slot) (H : Heap) (locs : List Loc), lv_has ls 8 [(6, .int (nI i41)), (5, .int (nI i31)), (4, .int s41), (2, .int (s6.1 + (1 : Int32))), (3, .int (nI i6)), (1, .int s6.2), (0, .ref a)] → va_P G classes [rwC a cI 129 row].flatten H → va_D A [rwC a cI 129 row].flatten → va_S A s.heap H locs → W p l e ({ frames := 2, cells := 0, slots := 0, locals := 43 } : Room) s m args below meth c H locs 0 0 QQ (F0 m 41 ls [])) (fun i41 s41 hi41 ih => ?_) 8 0 s31 (by omega) ?_ ls _ _ (lv_sub hl [0, 1, 2, 3, 4, 5, 6] rfl) hP hD hS
        · intro ls H locs hl hP hD hS
          refine lv_iload hx hb dX6_walked_41 (lv_at hl 0 rfl) ?_
          refine lv_bipush (v := 8) hx hb dX6_walked_43 (by decide) ?_
          refine nv_ge hx hb i41 8 105 (by omega) (by omega) dX6_walked_45 (by decide) (fun hc => absurd hc (by omega)) (fun _ => ?_)
          refine lv_iconst (v := 0) hx hb dX6_walked_48 (by decide) ?_
          refine lv_istore (lv' := [(7, .int (0 : Int32)), (6, .int (nI i41)), (5, .int (nI i31)), (4, .int s41), (2, .int (s6.1 + (1 : Int32))), (3, .int (nI i6)), (1, .int s6.2), (0, .ref a)]) hx hb dX6_walked_49 hl (by decide) rfl (fun ls hl => ?_)
          refine it_loop (f := (L_X6_walked_51 row i41)) 8 (fun (i51 : Nat) (s51 : Int32) => ∀ (ls : Array Slot) (H : Heap) (locs : List Loc), lv_has ls 8 [(7, .int (nI i51)), (6, .int (nI i41)), (5, .int (nI i31)), (4, .int s51), (2, .int (s6.1 + (1 : Int32))), (3, .int (nI i6)), (1, .int s6.2), (0, .ref a)] → va_P G classes [rwC a cI 129 row].flatten H → va_D A [rwC a cI 129 row].flatten → va_S A s.heap H locs → W p l e ({ frames := 2, cells := 0, slots := 0, locals := 43 } : Room) s m args below meth c H locs 0 0 QQ (F0 m 51 ls [])) (fun i51 s51 hi51 ih => ?_) 8 0 s41 (by omega) ?_ ls _ _ (lv_sub hl [0, 1, 2, 3, 4, 5, 6, 7] rfl) hP hD hS
          · intro ls H locs hl hP hD hS
            refine lv_iload hx hb dX6_walked_51 (lv_at hl 0 rfl) ?_
            refine lv_bipush (v := 8) hx hb dX6_walked_53 (by decide) ?_
            refine nv_ge hx hb i51 8 99 (by omega) (by omega) dX6_walked_55 (by decide) (fun hc => absurd hc (by omega)) (fun _ => ?_)
            refine lv_iload hx hb dX6_walked_58 (lv_at hl 3 rfl) ?_
            refine lv_iload hx hb dX6_walked_60 (lv_at hl 3 rfl) ?_
            refine lv_iload hx hb dX6_walked_62 (lv_at hl 1 rfl) ?_
            refine lv_ishr hx hb dX6_walked_64 ?_
            refine lv_iconst (v := 1) hx hb dX6_walked_65 (by decide) ?_
            refine lv_iand hx hb dX6_walked_66 ?_
            refine lv_iconst (v := 1) hx hb dX6_walked_67 (by decide) ?_
            have hM_20 : ∀ (v_19 : Int32) (ls : Array Slot) (H : Heap) (locs : List Loc), v_19 = (if ((s51 >>> ((nI i41) &&& 31)) &&& (1 : Int32)) = (1 : Int32) then (if (f_X6_isLocked row i41 i51) = true then ((1 : Int32) <<< ((nI i51) &&& 31)) else (0 : Int32)) else (0 : Int32)) → lv_has ls 8 [(7, .int (nI i51)), (6, .int (nI i41)), (5, .int (nI i31)), (2, .int (s6.1 + (1 : Int32))), (3, .int (nI i6)), (1, .int s6.2), (0, .ref a)] → va_P G classes [rwC a cI 129 row].flatten H → va_D A [rwC a cI 129 row].flatten → va_S A s.heap H locs → W p l e ({ frames := 2, cells := 0, slots := 0, locals := 43 } : Room) s m args below meth c H locs 0 0 QQ (F0 m 90 ls [.int v_19, .int s51]) := by
              intro v_19 ls H locs e_v_19 hl hP hD hS
              subst e_v_19
              refine lv_ior hx hb dX6_walked_90 ?_
              refine lv_istore (lv' := [(4, .int (s51 ||| (if ((s51 >>> ((nI i41) &&& 31)) &&& (1 : Int32)) = (1 : Int32) then (if (f_X6_isLocked row i41 i51) = true then ((1 : Int32) <<< ((nI i51) &&& 31)) else (0 : Int32)) else (0 : Int32)))), (7, .int (nI i51)), (6, .int (nI i41)), (5, .int (nI i31)), (2, .int (s6.1 + (1 : Int32))), (3, .int (nI i6)), (1, .int s6.2), (0, .ref a)]) hx hb dX6_walked_91 hl (by decide) rfl (fun ls hl => ?_)
              refine nv_iinc (k := 1) (lv' := [(7, .int (nI (i51 + 1))), (4, .int (s51 ||| (if ((s51 >>> ((nI i41) &&& 31)) &&& (1 : Int32)) = (1 : Int32) then (if (f_X6_isLocked row i41 i51) = true then ((1 : Int32) <<< ((nI i51) &&& 31)) else (0 : Int32)) else (0 : Int32)))), (6, .int (nI i41)), (5, .int (nI i31)), (2, .int (s6.1 + (1 : Int32))), (3, .int (nI i6)), (1, .int s6.2), (0, .ref a)]) hx hb i51 dX6_walked_93 hl rfl (by decide) rfl (fun ls hl => ?_)
              refine lv_goto (tgt := 51) hx hb dX6_walked_96 (by decide) ?_
              exact ih _ _ _ (lv_sub hl [0, 2, 3, 1, 4, 5, 6, 7] rfl) hP hD hS
            refine iv_ne hx hb 89 dX6_walked_68 (by decide) (fun c_11 => ?_) (fun c_11 => ?_)
            · refine lv_iconst (v := 0) hx hb dX6_walked_89 (by decide) ?_
              exact hM_20 (0 : Int32) _ _ _ (if_neg c_11).symm (lv_sub hl [0, 1, 2, 4, 5, 6, 7] rfl) hP hD hS
            · refine lv_aload_n hx hb dX6_walked_71 rfl (lv_at hl 7 rfl) ?_
              refine lv_iload hx hb dX6_walked_72 (lv_at hl 1 rfl) ?_
              refine lv_iload hx hb dX6_walked_74 (lv_at hl 0 rfl) ?_
              refine ct_callS (As := [.ref a, .int (nI i41), .int (nI i51)]) (rest := [.int s51]) X hP hD hS hA (k_X6_isLocked l G cI cS cL a row i41 i51 (by omega) (by omega)) cq_X6_isLocked aw_1097 ⟨Nat.le_of_ble_eq_true rfl, Nat.le_of_ble_eq_true rfl⟩ [0] (cs := [rwC a cI 129 row]) rfl (by decide) (cs' := [rwC a cI 129 row]) rfl rfl rfl hl.1 rfl (Nat.le_of_ble_eq_true rfl) dX6_walked_76 ⟨Nat.zero_le _, Nat.zero_le _⟩ rfl (bs' := [rwC a cI 129 row]) rfl (fun H locs hP hD hS => ?_)
              have hM_17 : ∀ (v_16 : Int32) (ls : Array Slot) (H : Heap) (locs : List Loc), v_16 = (if (f_X6_isLocked row i41 i51) = true then ((1 : Int32) <<< ((nI i51) &&& 31)) else (0 : Int32)) → lv_has ls 8 [(7, .int (nI i51)), (6, .int (nI i41)), (5, .int (nI i31)), (2, .int (s6.1 + (1 : Int32))), (3, .int (nI i6)), (1, .int s6.2), (0, .ref a)] → va_P G classes [rwC a cI 129 row].flatten H → va_D A [rwC a cI 129 row].flatten → va_S A s.heap H locs → W p l e ({ frames := 2, cells := 0, slots := 0, locals := 43 } : Room) s m args below meth c H locs 0 0 QQ (F0 m 90 ls [.int v_16, .int s51]) := by
                intro v_16 ls H locs e_v_16 hl hP hD hS
                subst e_v_16
                exact hM_20 (if (f_X6_isLocked row i41 i51) = true then ((1 : Int32) <<< ((nI i51) &&& 31)) else (0 : Int32)) _ _ _ (if_pos c_11).symm (lv_sub hl [0, 1, 2, 3, 4, 5, 6] rfl) hP hD hS
              refine bv_ifeq hx hb (f_X6_isLocked row i41 i51) 89 dX6_walked_79 (by decide) (fun c_13 => ?_) (fun c_13 => ?_)
              · refine lv_iconst (v := 0) hx hb dX6_walked_89 (by decide) ?_
                exact hM_17 (0 : Int32) _ _ _ (if_neg c_13).symm (lv_sub hl [0, 1, 2, 4, 5, 6, 7] rfl) hP hD hS
              · refine lv_iconst (v := 1) hx hb dX6_walked_82 (by decide) ?_
                refine lv_iload hx hb dX6_walked_83 (lv_at hl 0 rfl) ?_
                refine lv_ishl hx hb dX6_walked_85 ?_
                refine lv_goto (tgt := 90) hx hb dX6_walked_86 (by decide) ?_
                exact hM_17 ((1 : Int32) <<< ((nI i51) &&& 31)) _ _ _ (if_pos c_13).symm (lv_sub hl [0, 1, 2, 4, 5, 6, 7] rfl) hP hD hS
          · intro ls H locs hl hP hD hS
            refine lv_iload hx hb dX6_walked_51 (lv_at hl 0 rfl) ?_
            refine lv_bipush (v := 8) hx hb dX6_walked_53 (by decide) ?_
            refine nv_ge hx hb 8 8 99 (by omega) (by omega) dX6_walked_55 (by decide) (fun _ => ?_) (fun hc => absurd hc (by omega))
            refine nv_iinc (k := 1) (lv' := [(6, .int (nI (i41 + 1))), (7, .int (nI 8)), (5, .int (nI i31)), (4, .int (it (L_X6_walked_51 row i41) 0 8 s41)), (2, .int (s6.1 + (1 : Int32))), (3, .int (nI i6)), (1, .int s6.2), (0, .ref a)]) hx hb i41 dX6_walked_99 hl rfl (by decide) rfl (fun ls hl => ?_)
            refine lv_goto (tgt := 41) hx hb dX6_walked_102 (by decide) ?_
            exact ih _ _ _ (lv_sub hl [0, 2, 3, 4, 5, 6, 7] rfl) hP hD hS
        · intro ls H locs hl hP hD hS
          refine lv_iload hx hb dX6_walked_41 (lv_at hl 0 rfl) ?_
          refine lv_bipush (v := 8) hx hb dX6_walked_43 (by decide) ?_
          refine nv_ge hx hb 8 8 105 (by omega) (by omega) dX6_walked_45 (by decide) (fun _ => ?_) (fun hc => absurd hc (by omega))
          refine nv_iinc (k := 1) (lv' := [(5, .int (nI (i31 + 1))), (6, .int (nI 8)), (4, .int (it (L_X6_walked_41 row) 0 8 s31)), (2, .int (s6.1 + (1 : Int32))), (3, .int (nI i6)), (1, .int s6.2), (0, .ref a)]) hx hb i31 dX6_walked_105 hl rfl (by decide) rfl (fun ls hl => ?_)
          refine lv_goto (tgt := 31) hx hb dX6_walked_108 (by decide) ?_
          exact ih _ _ _ (lv_sub hl [0, 2, 3, 4, 5, 6] rfl) hP hD hS
      · intro ls H locs hl hP hD hS
        refine lv_iload hx hb dX6_walked_31 (lv_at hl 0 rfl) ?_
        refine lv_bipush (v := 8) hx hb dX6_walked_33 (by decide) ?_
        refine nv_ge hx hb 8 8 111 (by omega) (by omega) dX6_walked_35 (by decide) (fun _ => ?_) (fun hc => absurd hc (by omega))
        refine lv_iload_n hx hb dX6_walked_111 rfl (lv_at hl 4 rfl) ?_
        refine lv_iload hx hb dX6_walked_112 (lv_at hl 1 rfl) ?_
        refine lv_ior hx hb dX6_walked_114 ?_
        refine lv_istore_n (lv' := [(1, .int (s6.2 ||| (it (L_X6_walked_31 row) 0 8 ((1 : Int32) <<< ((nI i6) &&& 31))))), (5, .int (nI 8)), (4, .int (it (L_X6_walked_31 row) 0 8 ((1 : Int32) <<< ((nI i6) &&& 31)))), (2, .int (s6.1 + (1 : Int32))), (3, .int (nI i6)), (0, .ref a)]) hx hb dX6_walked_115 rfl hl (by decide) rfl (fun ls hl => ?_)
        exact hM_36 (s6.2 ||| (it (L_X6_walked_31 row) 0 8 ((1 : Int32) <<< ((nI i6) &&& 31)))) (s6.1 + (1 : Int32)) _ _ _ (if_pos c_3).symm (if_pos c_3).symm (lv_sub hl [0, 3, 4, 5] rfl) hP hD hS
  · intro ls H locs hl hP hD hS
    refine lv_iload_n hx hb dX6_walked_6 rfl (lv_at hl 0 rfl) ?_
    refine lv_bipush (v := 8) hx hb dX6_walked_7 (by decide) ?_
    refine nv_ge hx hb 8 8 122 (by omega) (by omega) dX6_walked_9 (by decide) (fun _ => ?_) (fun hc => absurd hc (by omega))
    refine lv_iload_n hx hb dX6_walked_122 rfl (lv_at hl 1 rfl) ?_
    rw [← hQQ]; exact W.iret hx hb hr (ct_end (F := (f_X6_walked row)) (u := (it (L_X6_walked_6 row) 0 8 ((0 : Int32), (0 : Int32))).1) (rf := (fun u => some (.int u))) (wf := (fun _ => [rwC a cI 129 row].flatten)) rfl rfl hP hD hS) hS.2.2 dX6_walked_123
set_option maxRecDepth 100000 in
set_option maxHeartbeats 4000000 in
theorem k_X6_greatest (l : Launch) (G : va_G) (cI cS cL : ClassId) (q : Nat → Nat) (a : Nat) (refusal : Int32) (isShot : Bool) (states : Nat) (length : Nat) (at_ : Nat) (good : Bool) (runs : Bool) (did : Int32) (group : Nat → Int32) (row : Nat → Int32) : Ct l G (tyl cI cS cL) yX6_greatest cX6_greatest 7 (some (Jvm.ClassFile.FieldType.int)) 4 93 0 0 [.ref (q 0), .ref a] [mdC q refusal isShot states length at_ good runs did, rwC (q 6) cI 8 group, rwC a cI 129 row].flatten (f_X6_greatest group row) (fun u => some (.int u.1)) (fun u => [mdC q refusal isShot states length at_ good runs did, rwC (q 6) cI 8 u.2, rwC a cI 129 row].flatten) := by
  refine Ct.of (by decide +kernel) (Nat.le_of_ble_eq_true rfl) ?_
  intro p e s m args below meth c A ls hx hb hr hml hw hown hlocks hin hK hN hP hD hS hA hl
  have hown : s.vm.findClass RX6 = some m.cls := hown
  have X : Cx p s m args c cX6_greatest 7 RX6 G (tyl cI cS cL) := ⟨hx, hb, hml, hown, hw, hK, hN⟩
  have hP : va_P G classes [mdC q refusal isShot states length at_ good runs did, rwC (q 6) cI 8 group, rwC a cI 129 row].flatten s.heap := hP
  have hl : lv_has ls 7 [(0, .ref (q 0)), (1, .ref a)] := hl
  generalize hQQ : MQ below _ args s 0 0 A = QQ
  refine lv_iconst (v := 0) hx hb dX6_greatest_0 (by decide) ?_
  refine lv_istore_n (lv' := [(2, .int (0 : Int32)), (0, .ref (q 0)), (1, .ref a)]) hx hb dX6_greatest_1 rfl hl (by decide) rfl (fun ls hl => ?_)
  refine lv_iconst (v := 0) hx hb dX6_greatest_2 (by decide) ?_
  refine lv_istore_n (lv' := [(3, .int (0 : Int32)), (2, .int (0 : Int32)), (0, .ref (q 0)), (1, .ref a)]) hx hb dX6_greatest_3 rfl hl (by decide) rfl (fun ls hl => ?_)
  refine it_loop (f := (L_X6_greatest_4 row)) 8 (fun (i4 : Nat) (s4 : Int32 × (Nat → Int32)) => ∀ (ls : Array Slot) (H : Heap) (locs : List Loc), lv_has ls 7 [(3, .int (nI i4)), (2, .int s4.1), (0, .ref (q 0)), (1, .ref a)] → va_P G classes [mdC q refusal isShot states length at_ good runs did, rwC (q 6) cI 8 s4.2, rwC a cI 129 row].flatten H → va_D A [mdC q refusal isShot states length at_ good runs did, rwC (q 6) cI 8 s4.2, rwC a cI 129 row].flatten → va_S A s.heap H locs → W p l e ({ frames := 4, cells := 0, slots := 0, locals := 93 } : Room) s m args below meth c H locs 0 0 QQ (F0 m 4 ls [])) (fun i4 s4 hi4 ih => ?_) 8 0 ((0 : Int32), group) (by omega) ?_ ls _ _ (lv_sub hl [0, 1, 2, 3] rfl) hP hD hS
  · intro ls H locs hl hP hD hS
    refine lv_iload_n hx hb dX6_greatest_4 rfl (lv_at hl 0 rfl) ?_
    refine lv_bipush (v := 8) hx hb dX6_greatest_5 (by decide) ?_
    refine nv_ge hx hb i4 8 68 (by omega) (by omega) dX6_greatest_7 (by decide) (fun hc => absurd hc (by omega)) (fun _ => ?_)
    refine lv_aload_n hx hb dX6_greatest_10 rfl (lv_at hl 2 rfl) ?_
    refine lv_aload_n hx hb dX6_greatest_11 rfl (lv_at hl 3 rfl) ?_
    refine lv_iload_n hx hb dX6_greatest_12 rfl (lv_at hl 0 rfl) ?_
    refine ct_callV (As := [.ref a, .int (nI i4)]) (rest := []) X hP hD hS hA (k_X6_groupSet l G cI cS cL q a refusal isShot states length at_ good runs did s4.2 row i4 (by omega)) cp_X6_groupSet aw_1104 ⟨Nat.le_of_ble_eq_true rfl, Nat.le_of_ble_eq_true rfl⟩ [0, 1, 2] (cs := [mdC q refusal isShot states length at_ good runs did, rwC (q 6) cI 8 s4.2, rwC a cI 129 row]) rfl (by decide) (cs' := [mdC q refusal isShot states length at_ good runs did, rwC (q 6) cI 8 ((f_X6_groupSet s4.2 row i4).2), rwC a cI 129 row]) rfl rfl 4 rfl rfl (q0 := 0) rfl rfl hl.1 rfl (Nat.le_of_ble_eq_true rfl) dX6_greatest_13 ⟨Nat.zero_le _, Nat.zero_le _⟩ rfl (bs' := [mdC q refusal isShot states length at_ good runs did, rwC (q 6) cI 8 ((f_X6_groupSet s4.2 row i4).2), rwC a cI 129 row]) rfl (fun H locs hP hD hS => ?_)
    refine lv_istore (lv' := [(4, .int ((f_X6_groupSet s4.2 row i4).1)), (3, .int (nI i4)), (2, .int s4.1), (0, .ref (q 0)), (1, .ref a)]) hx hb dX6_greatest_16 hl (by decide) rfl (fun ls hl => ?_)
    refine lv_iconst (v := 0) hx hb dX6_greatest_18 (by decide) ?_
    refine lv_istore (lv' := [(5, .int (0 : Int32)), (4, .int ((f_X6_groupSet s4.2 row i4).1)), (3, .int (nI i4)), (2, .int s4.1), (0, .ref (q 0)), (1, .ref a)]) hx hb dX6_greatest_19 hl (by decide) rfl (fun ls hl => ?_)
    refine lv_iconst (v := 0) hx hb dX6_greatest_21 (by decide) ?_
    refine lv_istore (lv' := [(6, .int (0 : Int32)), (5, .int (0 : Int32)), (4, .int ((f_X6_groupSet s4.2 row i4).1)), (3, .int (nI i4)), (2, .int s4.1), (0, .ref (q 0)), (1, .ref a)]) hx hb dX6_greatest_22 hl (by decide) rfl (fun ls hl => ?_)
    refine it_loop (f := (L_X6_greatest_24 row i4 s4)) 8 (fun (i24 : Nat) (s24 : Int32) => ∀ (ls : Array Slot) (H : Heap) (locs : List Loc), lv_has ls 7 [(6, .int (nI i24)), (5, .int s24), (4, .int ((f_X6_groupSet s4.2 row i4).1)), (3, .int (nI i4)), (2, .int s4.1), (0, .ref (q 0)), (1, .ref a)] → va_P G classes [mdC q refusal isShot states length at_ good runs did, rwC (q 6) cI 8 ((f_X6_groupSet s4.2 row i4).2), rwC a cI 129 row].flatten H → va_D A [mdC q refusal isShot states length at_ good runs did, rwC (q 6) cI 8 ((f_X6_groupSet s4.2 row i4).2), rwC a cI 129 row].flatten → va_S A s.heap H locs → W p l e ({ frames := 4, cells := 0, slots := 0, locals := 93 } : Room) s m args below meth c H locs 0 0 QQ (F0 m 24 ls [])) (fun i24 s24 hi24 ih => ?_) 8 0 (0 : Int32) (by omega) ?_ ls _ _ (lv_sub hl [0, 1, 2, 3, 4, 5, 6] rfl) hP hD hS
    · intro ls H locs hl hP hD hS
      refine lv_iload hx hb dX6_greatest_24 (lv_at hl 0 rfl) ?_
      refine lv_bipush (v := 8) hx hb dX6_greatest_26 (by decide) ?_
      refine nv_ge hx hb i24 8 49 (by omega) (by omega) dX6_greatest_28 (by decide) (fun hc => absurd hc (by omega)) (fun _ => ?_)
      refine lv_iload hx hb dX6_greatest_31 (lv_at hl 1 rfl) ?_
      refine lv_iload hx hb dX6_greatest_33 (lv_at hl 2 rfl) ?_
      refine lv_iload hx hb dX6_greatest_35 (lv_at hl 0 rfl) ?_
      refine lv_ishr hx hb dX6_greatest_37 ?_
      refine lv_iconst (v := 1) hx hb dX6_greatest_38 (by decide) ?_
      refine lv_iand hx hb dX6_greatest_39 ?_
      refine lv_iadd hx hb dX6_greatest_40 ?_
      refine lv_istore (lv' := [(5, .int (s24 + (((f_X6_groupSet s4.2 row i4).1 >>> ((nI i24) &&& 31)) &&& (1 : Int32)))), (6, .int (nI i24)), (4, .int ((f_X6_groupSet s4.2 row i4).1)), (3, .int (nI i4)), (2, .int s4.1), (0, .ref (q 0)), (1, .ref a)]) hx hb dX6_greatest_41 hl (by decide) rfl (fun ls hl => ?_)
      refine nv_iinc (k := 1) (lv' := [(6, .int (nI (i24 + 1))), (5, .int (s24 + (((f_X6_groupSet s4.2 row i4).1 >>> ((nI i24) &&& 31)) &&& (1 : Int32)))), (4, .int ((f_X6_groupSet s4.2 row i4).1)), (3, .int (nI i4)), (2, .int s4.1), (0, .ref (q 0)), (1, .ref a)]) hx hb i24 dX6_greatest_43 hl rfl (by decide) rfl (fun ls hl => ?_)
      refine lv_goto (tgt := 24) hx hb dX6_greatest_46 (by decide) ?_
      exact ih _ _ _ (lv_sub hl [0, 1, 2, 3, 4, 5, 6] rfl) hP hD hS
    · intro ls H locs hl hP hD hS
      refine lv_iload hx hb dX6_greatest_24 (lv_at hl 0 rfl) ?_
      refine lv_bipush (v := 8) hx hb dX6_greatest_26 (by decide) ?_
      refine nv_ge hx hb 8 8 49 (by omega) (by omega) dX6_greatest_28 (by decide) (fun _ => ?_) (fun hc => absurd hc (by omega))
      refine lv_iload hx hb dX6_greatest_49 (lv_at hl 1 rfl) ?_
      refine lv_iload_n hx hb dX6_greatest_51 rfl (lv_at hl 4 rfl) ?_
      have hM_13 : ∀ (v_12 : Int32) (ls : Array Slot) (H : Heap) (locs : List Loc), v_12 = (if (it (L_X6_greatest_24 row i4 s4) 0 8 (0 : Int32)) ≤ s4.1 then s4.1 else (it (L_X6_greatest_24 row i4 s4) 0 8 (0 : Int32))) → lv_has ls 7 [(3, .int (nI i4)), (0, .ref (q 0)), (1, .ref a)] → va_P G classes [mdC q refusal isShot states length at_ good runs did, rwC (q 6) cI 8 ((f_X6_groupSet s4.2 row i4).2), rwC a cI 129 row].flatten H → va_D A [mdC q refusal isShot states length at_ good runs did, rwC (q 6) cI 8 ((f_X6_groupSet s4.2 row i4).2), rwC a cI 129 row].flatten → va_S A s.heap H locs → W p l e ({ frames := 4, cells := 0, slots := 0, locals := 93 } : Room) s m args below meth c H locs 0 0 QQ (F0 m 61 ls [.int v_12]) := by
        intro v_12 ls H locs e_v_12 hl hP hD hS
        subst e_v_12
        refine lv_istore_n (lv' := [(2, .int (if (it (L_X6_greatest_24 row i4 s4) 0 8 (0 : Int32)) ≤ s4.1 then s4.1 else (it (L_X6_greatest_24 row i4 s4) 0 8 (0 : Int32)))), (3, .int (nI i4)), (0, .ref (q 0)), (1, .ref a)]) hx hb dX6_greatest_61 rfl hl (by decide) rfl (fun ls hl => ?_)
        refine nv_iinc (k := 1) (lv' := [(3, .int (nI (i4 + 1))), (2, .int (if (it (L_X6_greatest_24 row i4 s4) 0 8 (0 : Int32)) ≤ s4.1 then s4.1 else (it (L_X6_greatest_24 row i4 s4) 0 8 (0 : Int32)))), (0, .ref (q 0)), (1, .ref a)]) hx hb i4 dX6_greatest_62 hl rfl (by decide) rfl (fun ls hl => ?_)
        refine lv_goto (tgt := 4) hx hb dX6_greatest_65 (by decide) ?_
        exact ih _ _ _ (lv_sub hl [0, 1, 2, 3] rfl) hP hD hS
      refine lv_icmp_le (tgt := 60) hx hb dX6_greatest_52 (by decide) (fun c_9 => ?_) (fun c_9 => ?_)
      · refine lv_iload_n hx hb dX6_greatest_60 rfl (lv_at hl 4 rfl) ?_
        exact hM_13 s4.1 _ _ _ (if_pos c_9).symm (lv_sub hl [3, 5, 6] rfl) hP hD hS
      · refine lv_iload hx hb dX6_greatest_55 (lv_at hl 1 rfl) ?_
        refine lv_goto (tgt := 61) hx hb dX6_greatest_57 (by decide) ?_
        exact hM_13 (it (L_X6_greatest_24 row i4 s4) 0 8 (0 : Int32)) _ _ _ (if_neg c_9).symm (lv_sub hl [3, 5, 6] rfl) hP hD hS
  · intro ls H locs hl hP hD hS
    refine lv_iload_n hx hb dX6_greatest_4 rfl (lv_at hl 0 rfl) ?_
    refine lv_bipush (v := 8) hx hb dX6_greatest_5 (by decide) ?_
    refine nv_ge hx hb 8 8 68 (by omega) (by omega) dX6_greatest_7 (by decide) (fun _ => ?_) (fun hc => absurd hc (by omega))
    refine lv_iload_n hx hb dX6_greatest_68 rfl (lv_at hl 1 rfl) ?_
    rw [← hQQ]; exact W.iret hx hb hr (ct_end (F := (f_X6_greatest group row)) (u := (it (L_X6_greatest_4 row) 0 8 ((0 : Int32), group))) (rf := (fun u => some (.int u.1))) (wf := (fun u => [mdC q refusal isShot states length at_ good runs did, rwC (q 6) cI 8 u.2, rwC a cI 129 row].flatten)) rfl rfl hP hD hS) hS.2.2 dX6_greatest_69
set_option maxRecDepth 100000 in
set_option maxHeartbeats 4000000 in
theorem k_X6_refused (l : Launch) (G : va_G) (cI cS cL : ClassId) (q : Nat → Nat) (refusal : Int32) (isShot : Bool) (states : Nat) (length : Nat) (at_ : Nat) (good : Bool) (runs : Bool) (did : Int32) (why : Int32) : Ct l G (tyl cI cS cL) yX6_refused cX6_refused 2 (some (Jvm.ClassFile.FieldType.boolean)) 0 0 0 0 [.ref (q 0), .int why] [mdC q refusal isShot states length at_ good runs did].flatten (f_X6_refused why) (fun u => some (.int (bI u.1))) (fun u => [mdC q u.2 isShot states length at_ good runs did].flatten) := by
  refine Ct.of (by decide +kernel) (Nat.le_of_ble_eq_true rfl) ?_
  intro p e s m args below meth c A ls hx hb hr hml hw hown hlocks hin hK hN hP hD hS hA hl
  have hown : s.vm.findClass RX6 = some m.cls := hown
  have X : Cx p s m args c cX6_refused 2 RX6 G (tyl cI cS cL) := ⟨hx, hb, hml, hown, hw, hK, hN⟩
  have hP : va_P G classes [mdC q refusal isShot states length at_ good runs did].flatten s.heap := hP
  have hl : lv_has ls 2 [(0, .ref (q 0)), (1, .int why)] := hl
  generalize hQQ : MQ below _ args s 0 0 A = QQ
  refine lv_aload_n hx hb dX6_refused_0 rfl (lv_at hl 0 rfl) ?_
  refine lv_iload_n hx hb dX6_refused_1 rfl (lv_at hl 1 rfl) ?_
  refine nv_put (D := G) (ci := 4) (ty := .int) (v := .int why) (C := RX6) (T := TX6) (N := 15) hx hb hw in_X6 tyX6 tyX6_ok nmX6 hown hK hP hD hS 0 rfl rfl 0 (by decide) (hw _ aw_871) (fun _ h9 => h9) rfl (by decide +kernel) rfl rfl (Nat.le_of_ble_eq_true rfl) dX6_refused_2 (ws' := [mdC q why isShot states length at_ good runs did].flatten) rfl (fun H locs hP hD hS => ?_)
  refine lv_iload_n hx hb dX6_refused_5 rfl (lv_at hl 1 rfl) ?_
  have hM_5 : ∀ (v_4 : Bool) (ls : Array Slot) (H : Heap) (locs : List Loc), v_4 = (if why = 0 then false else true) → lv_has ls 2 [] → va_P G classes [mdC q why isShot states length at_ good runs did].flatten H → va_D A [mdC q why isShot states length at_ good runs did].flatten → va_S A s.heap H locs → W p l e ({ frames := 0, cells := 0, slots := 0, locals := 0 } : Room) s m args below meth c H locs 0 0 QQ (F0 m 14 ls [.int (bI v_4)]) := by
    intro v_4 ls H locs e_v_4 hl hP hD hS
    subst e_v_4
    rw [← hQQ]; exact W.zret (v := bI (if why = 0 then false else true)) hx hb hr (nar_b _) (ct_end (F := (f_X6_refused why)) (u := ((if why = 0 then false else true), why)) (rf := (fun u => some (.int (bI u.1)))) (wf := (fun u => [mdC q u.2 isShot states length at_ good runs did].flatten)) rfl rfl hP hD hS) hS.2.2 dX6_refused_14
  refine lv_if_eq (tgt := 13) hx hb dX6_refused_6 (by decide) (fun c_1 => ?_) (fun c_1 => ?_)
  · refine lv_iconst (v := 0) hx hb dX6_refused_13 (by decide) ?_
    exact hM_5 false _ _ _ (if_pos c_1).symm (lv_sub hl [] rfl) hP hD hS
  · refine lv_iconst (v := 1) hx hb dX6_refused_9 (by decide) ?_
    refine lv_goto (tgt := 14) hx hb dX6_refused_10 (by decide) ?_
    exact hM_5 true _ _ _ (if_neg c_1).symm (lv_sub hl [] rfl) hP hD hS
set_option maxRecDepth 100000 in
set_option maxHeartbeats 4000000 in
theorem k_X6_put (l : Launch) (G : va_G) (cI cS cL : ClassId) (q : Nat → Nat) (refusal : Int32) (isShot : Bool) (states : Nat) (length : Nat) (at_ : Nat) (good : Bool) (runs : Bool) (did : Int32) (now : Nat → Int32) (place : Nat) (v : Int32) (hp : place < 129) : Ct l G (tyl cI cS cL) yX6_put cX6_put 4 (some (Jvm.ClassFile.FieldType.int)) 0 0 0 0 [.ref (q 0), .int (nI place), .int v] [mdC q refusal isShot states length at_ good runs did, rwC (q 1) cI 129 now].flatten (f_X6_put now place v) (fun u => some (.int u.1)) (fun u => [mdC q refusal isShot states length at_ good runs did, rwC (q 1) cI 129 u.2].flatten) := by
  refine Ct.of (by decide +kernel) (Nat.le_of_ble_eq_true rfl) ?_
  intro p e s m args below meth c A ls hx hb hr hml hw hown hlocks hin hK hN hP hD hS hA hl
  have hown : s.vm.findClass RX6 = some m.cls := hown
  have X : Cx p s m args c cX6_put 4 RX6 G (tyl cI cS cL) := ⟨hx, hb, hml, hown, hw, hK, hN⟩
  have hP : va_P G classes [mdC q refusal isShot states length at_ good runs did, rwC (q 1) cI 129 now].flatten s.heap := hP
  have hl : lv_has ls 4 [(0, .ref (q 0)), (1, .int (nI place)), (2, .int v)] := hl
  generalize hQQ : MQ below _ args s 0 0 A = QQ
  refine lv_aload_n hx hb dX6_put_0 rfl (lv_at hl 0 rfl) ?_
  refine va_get (D := G) (ci := 4) (C := RX6) (T := TX6) (N := 15) hx hb hw in_X6 hown hK hP 0 rfl rfl 1 (by decide) (hw _ aw_872) (fun _ h9 => h9) rfl dX6_put_1 ?_
  refine lv_iload_n hx hb dX6_put_4 rfl (lv_at hl 1 rfl) ?_
  refine nv_iald hx hb hK hP 1 0 rfl rfl place (by omega) (by decide) dX6_put_5 ?_
  refine lv_istore_n (lv' := [(3, .int (now place)), (0, .ref (q 0)), (1, .int (nI place)), (2, .int v)]) hx hb dX6_put_6 rfl hl (by decide) rfl (fun ls hl => ?_)
  refine lv_aload_n hx hb dX6_put_7 rfl (lv_at hl 1 rfl) ?_
  refine va_get (D := G) (ci := 4) (C := RX6) (T := TX6) (N := 15) hx hb hw in_X6 hown hK hP 0 rfl rfl 1 (by decide) (hw _ aw_872) (fun _ h9 => h9) rfl dX6_put_8 ?_
  refine lv_iload_n hx hb dX6_put_11 rfl (lv_at hl 2 rfl) ?_
  refine lv_iload_n hx hb dX6_put_12 rfl (lv_at hl 3 rfl) ?_
  refine nv_iast hx hb hK hP hD hS 1 0 rfl rfl place (by omega) (by decide) dX6_put_13 (ws' := [mdC q refusal isShot states length at_ good runs did, rwC (q 1) cI 129 (upd now place v)].flatten) rfl (fun H locs hP hD hS => ?_)
  refine lv_iload_n hx hb dX6_put_14 rfl (lv_at hl 0 rfl) ?_
  rw [← hQQ]; exact W.iret hx hb hr (ct_end (F := (f_X6_put now place v)) (u := ((now place), (upd now place v))) (rf := (fun u => some (.int u.1))) (wf := (fun u => [mdC q refusal isShot states length at_ good runs did, rwC (q 1) cI 129 u.2].flatten)) rfl rfl hP hD hS) hS.2.2 dX6_put_15
set_option maxRecDepth 100000 in
set_option maxHeartbeats 4000000 in
theorem k_X6_save (l : Launch) (G : va_G) (cI cS cL : ClassId) (q : Nat → Nat) (refusal : Int32) (isShot : Bool) (states : Nat) (length : Nat) (at_ : Nat) (good : Bool) (runs : Bool) (did : Int32) (now : Nat → Int32) (book : Nat → Int32) (hst : states ≤ 6) : Ct l G (tyl cI cS cL) yX6_save cX6_save 2 none 0 0 0 0 [.ref (q 0)] [mdC q refusal isShot states length at_ good runs did, rwC (q 1) cI 129 now, rwC (q 4) cI 774 book].flatten (f_X6_save states now book) (fun _ => none) (fun u => [mdC q refusal isShot u.1 length at_ good runs did, rwC (q 1) cI 129 now, rwC (q 4) cI 774 u.2].flatten) := by
  refine Ct.of (by decide +kernel) (Nat.le_of_ble_eq_true rfl) ?_
  intro p e s m args below meth c A ls hx hb hr hml hw hown hlocks hin hK hN hP hD hS hA hl
  have hown : s.vm.findClass RX6 = some m.cls := hown
  have X : Cx p s m args c cX6_save 2 RX6 G (tyl cI cS cL) := ⟨hx, hb, hml, hown, hw, hK, hN⟩
  have hP : va_P G classes [mdC q refusal isShot states length at_ good runs did, rwC (q 1) cI 129 now, rwC (q 4) cI 774 book].flatten s.heap := hP
  have hl : lv_has ls 2 [(0, .ref (q 0))] := hl
  generalize hQQ : MQ below _ args s 0 0 A = QQ
  refine lv_aload_n hx hb dX6_save_0 rfl (lv_at hl 0 rfl) ?_
  refine va_get (D := G) (ci := 4) (C := RX6) (T := TX6) (N := 15) hx hb hw in_X6 hown hK hP 0 rfl rfl 6 (by decide) (hw _ aw_877) (fun _ h9 => h9) rfl dX6_save_1 ?_
  refine lv_bipush (v := 6) hx hb dX6_save_4 (by decide) ?_
  have hM_12 : ∀ (v_10 : Nat) (v_11 : Nat → Int32) (ls : Array Slot) (H : Heap) (locs : List Loc), v_10 = (if states = 6 then (states - 1) else states) → v_11 = (if states = 6 then (it L_X6_save_11 0 645 book) else book) → lv_has ls 2 [(0, .ref (q 0))] → va_P G classes [mdC q refusal isShot v_10 length at_ good runs did, rwC (q 1) cI 129 now, rwC (q 4) cI 774 v_11].flatten H → va_D A [mdC q refusal isShot v_10 length at_ good runs did, rwC (q 1) cI 129 now, rwC (q 4) cI 774 v_11].flatten → va_S A s.heap H locs → W p l e ({ frames := 0, cells := 0, slots := 0, locals := 0 } : Room) s m args below meth c H locs 0 0 QQ (F0 m 50 ls []) := by
    intro v_10 v_11 ls H locs e_v_10 e_v_11 hl hP hD hS
    subst e_v_10 e_v_11
    refine lv_iconst (v := 0) hx hb dX6_save_50 (by decide) ?_
    refine lv_istore_n (lv' := [(1, .int (0 : Int32)), (0, .ref (q 0))]) hx hb dX6_save_51 rfl hl (by decide) rfl (fun ls hl => ?_)
    refine it_loop (f := (L_X6_save_52 states now)) 129 (fun (i52 : Nat) (s52 : (Nat → Int32)) => ∀ (ls : Array Slot) (H : Heap) (locs : List Loc), lv_has ls 2 [(1, .int (nI i52)), (0, .ref (q 0))] → va_P G classes [mdC q refusal isShot (if states = 6 then (states - 1) else states) length at_ good runs did, rwC (q 1) cI 129 now, rwC (q 4) cI 774 s52].flatten H → va_D A [mdC q refusal isShot (if states = 6 then (states - 1) else states) length at_ good runs did, rwC (q 1) cI 129 now, rwC (q 4) cI 774 s52].flatten → va_S A s.heap H locs → W p l e ({ frames := 0, cells := 0, slots := 0, locals := 0 } : Room) s m args below meth c H locs 0 0 QQ (F0 m 52 ls [])) (fun i52 s52 hi52 ih => ?_) 129 0 (if states = 6 then (it L_X6_save_11 0 645 book) else book) (by omega) ?_ ls _ _ (lv_sub hl [0, 1] rfl) hP hD hS
    · intro ls H locs hl hP hD hS
      refine lv_iload_n hx hb dX6_save_52 rfl (lv_at hl 0 rfl) ?_
      refine lv_sipush (v := 129) hx hb dX6_save_53 (by decide) ?_
      refine nv_ge hx hb i52 129 86 (by omega) (by omega) dX6_save_56 (by decide) (fun hc => absurd hc (by omega)) (fun _ => ?_)
      refine lv_aload_n hx hb dX6_save_59 rfl (lv_at hl 1 rfl) ?_
      refine va_get (D := G) (ci := 4) (C := RX6) (T := TX6) (N := 15) hx hb hw in_X6 hown hK hP 0 rfl rfl 5 (by decide) (hw _ aw_876) (fun _ h9 => h9) rfl dX6_save_60 ?_
      refine lv_sipush (v := 129) hx hb dX6_save_63 (by decide) ?_
      refine lv_aload_n hx hb dX6_save_66 rfl (lv_at hl 1 rfl) ?_
      refine va_get (D := G) (ci := 4) (C := RX6) (T := TX6) (N := 15) hx hb hw in_X6 hown hK hP 0 rfl rfl 6 (by decide) (hw _ aw_877) (fun _ h9 => h9) rfl dX6_save_67 ?_
      refine nv_imul hx hb 129 (if states = 6 then (states - 1) else states) dX6_save_70 ?_
      refine lv_iload_n hx hb dX6_save_71 rfl (lv_at hl 0 rfl) ?_
      refine nv_iadd hx hb (129 * (if states = 6 then (states - 1) else states)) i52 dX6_save_72 ?_
      refine lv_aload_n hx hb dX6_save_73 rfl (lv_at hl 1 rfl) ?_
      refine va_get (D := G) (ci := 4) (C := RX6) (T := TX6) (N := 15) hx hb hw in_X6 hown hK hP 0 rfl rfl 1 (by decide) (hw _ aw_872) (fun _ h9 => h9) rfl dX6_save_74 ?_
      refine lv_iload_n hx hb dX6_save_77 rfl (lv_at hl 0 rfl) ?_
      refine nv_iald hx hb hK hP 1 0 rfl rfl i52 (by first | omega | (split <;> omega)) (by decide) dX6_save_78 ?_
      refine nv_iast hx hb hK hP hD hS 2 0 rfl rfl ((129 * (if states = 6 then (states - 1) else states)) + i52) (by first | omega | (split <;> omega)) (by decide) dX6_save_79 (ws' := [mdC q refusal isShot (if states = 6 then (states - 1) else states) length at_ good runs did, rwC (q 1) cI 129 now, rwC (q 4) cI 774 (upd s52 ((129 * (if states = 6 then (states - 1) else states)) + i52) (now i52))].flatten) rfl (fun H locs hP hD hS => ?_)
      refine nv_iinc (k := 0) (lv' := [(1, .int (nI (i52 + 1))), (0, .ref (q 0))]) hx hb i52 dX6_save_80 hl rfl (by decide) rfl (fun ls hl => ?_)
      refine lv_goto (tgt := 52) hx hb dX6_save_83 (by decide) ?_
      exact ih _ _ _ (lv_sub hl [0, 1] rfl) hP hD hS
    · intro ls H locs hl hP hD hS
      refine lv_iload_n hx hb dX6_save_52 rfl (lv_at hl 0 rfl) ?_
      refine lv_sipush (v := 129) hx hb dX6_save_53 (by decide) ?_
      refine nv_ge hx hb 129 129 86 (by omega) (by omega) dX6_save_56 (by decide) (fun _ => ?_) (fun hc => absurd hc (by omega))
      refine lv_aload_n hx hb dX6_save_86 rfl (lv_at hl 1 rfl) ?_
      refine lv_dup hx hb dX6_save_87 rfl ?_
      refine va_get (D := G) (ci := 4) (C := RX6) (T := TX6) (N := 15) hx hb hw in_X6 hown hK hP 0 rfl rfl 6 (by decide) (hw _ aw_877) (fun _ h9 => h9) rfl dX6_save_88 ?_
      refine lv_iconst (v := 1) hx hb dX6_save_91 (by decide) ?_
      refine nv_iadd hx hb (if states = 6 then (states - 1) else states) 1 dX6_save_92 ?_
      refine nv_put (D := G) (ci := 4) (ty := .int) (v := .int (nI ((if states = 6 then (states - 1) else states) + 1))) (C := RX6) (T := TX6) (N := 15) hx hb hw in_X6 tyX6 tyX6_ok nmX6 hown hK hP hD hS 0 rfl rfl 6 (by decide) (hw _ aw_877) (fun _ h9 => h9) rfl (by decide +kernel) rfl rfl (Nat.le_of_ble_eq_true rfl) dX6_save_93 (ws' := [mdC q refusal isShot ((if states = 6 then (states - 1) else states) + 1) length at_ good runs did, rwC (q 1) cI 129 now, rwC (q 4) cI 774 (it (L_X6_save_52 states now) 0 129 (if states = 6 then (it L_X6_save_11 0 645 book) else book))].flatten) rfl (fun H locs hP hD hS => ?_)
      rw [← hQQ]; exact W.vret hx hb hr (ct_end (F := (f_X6_save states now book)) (u := (((if states = 6 then (states - 1) else states) + 1), (it (L_X6_save_52 states now) 0 129 (if states = 6 then (it L_X6_save_11 0 645 book) else book)))) (rf := (fun _ => none)) (wf := (fun u => [mdC q refusal isShot u.1 length at_ good runs did, rwC (q 1) cI 129 now, rwC (q 4) cI 774 u.2].flatten)) rfl rfl hP hD hS) hS.2.2 dX6_save_96
  refine nv_ne hx hb states 6 50 (by omega) (by omega) dX6_save_6 (by decide) (fun c_1 => ?_) (fun c_1 => ?_)
  · exact hM_12 states book _ _ _ (if_neg c_1).symm (if_neg c_1).symm (lv_sub hl [0] rfl) hP hD hS
  · refine lv_iconst (v := 0) hx hb dX6_save_9 (by decide) ?_
    refine lv_istore_n (lv' := [(1, .int (0 : Int32)), (0, .ref (q 0))]) hx hb dX6_save_10 rfl hl (by decide) rfl (fun ls hl => ?_)
    refine it_loop (f := L_X6_save_11) 645 (fun (i11 : Nat) (s11 : (Nat → Int32)) => ∀ (ls : Array Slot) (H : Heap) (locs : List Loc), lv_has ls 2 [(1, .int (nI i11)), (0, .ref (q 0))] → va_P G classes [mdC q refusal isShot states length at_ good runs did, rwC (q 1) cI 129 now, rwC (q 4) cI 774 s11].flatten H → va_D A [mdC q refusal isShot states length at_ good runs did, rwC (q 1) cI 129 now, rwC (q 4) cI 774 s11].flatten → va_S A s.heap H locs → W p l e ({ frames := 0, cells := 0, slots := 0, locals := 0 } : Room) s m args below meth c H locs 0 0 QQ (F0 m 11 ls [])) (fun i11 s11 hi11 ih => ?_) 645 0 book (by omega) ?_ ls _ _ (lv_sub hl [0, 1] rfl) hP hD hS
    · intro ls H locs hl hP hD hS
      refine lv_iload_n hx hb dX6_save_11 rfl (lv_at hl 0 rfl) ?_
      refine lv_sipush (v := 645) hx hb dX6_save_12 (by decide) ?_
      refine nv_ge hx hb i11 645 40 (by omega) (by omega) dX6_save_15 (by decide) (fun hc => absurd hc (by omega)) (fun _ => ?_)
      refine lv_aload_n hx hb dX6_save_18 rfl (lv_at hl 1 rfl) ?_
      refine va_get (D := G) (ci := 4) (C := RX6) (T := TX6) (N := 15) hx hb hw in_X6 hown hK hP 0 rfl rfl 5 (by decide) (hw _ aw_876) (fun _ h9 => h9) rfl dX6_save_19 ?_
      refine lv_iload_n hx hb dX6_save_22 rfl (lv_at hl 0 rfl) ?_
      refine lv_aload_n hx hb dX6_save_23 rfl (lv_at hl 1 rfl) ?_
      refine va_get (D := G) (ci := 4) (C := RX6) (T := TX6) (N := 15) hx hb hw in_X6 hown hK hP 0 rfl rfl 5 (by decide) (hw _ aw_876) (fun _ h9 => h9) rfl dX6_save_24 ?_
      refine lv_sipush (v := 129) hx hb dX6_save_27 (by decide) ?_
      refine lv_iload_n hx hb dX6_save_30 rfl (lv_at hl 0 rfl) ?_
      refine nv_iadd hx hb 129 i11 dX6_save_31 ?_
      refine nv_iald hx hb hK hP 2 0 rfl rfl (129 + i11) (by first | omega | (split <;> omega)) (by decide) dX6_save_32 ?_
      refine nv_iast hx hb hK hP hD hS 2 0 rfl rfl i11 (by first | omega | (split <;> omega)) (by decide) dX6_save_33 (ws' := [mdC q refusal isShot states length at_ good runs did, rwC (q 1) cI 129 now, rwC (q 4) cI 774 (upd s11 i11 (s11 (129 + i11)))].flatten) rfl (fun H locs hP hD hS => ?_)
      refine nv_iinc (k := 0) (lv' := [(1, .int (nI (i11 + 1))), (0, .ref (q 0))]) hx hb i11 dX6_save_34 hl rfl (by decide) rfl (fun ls hl => ?_)
      refine lv_goto (tgt := 11) hx hb dX6_save_37 (by decide) ?_
      exact ih _ _ _ (lv_sub hl [0, 1] rfl) hP hD hS
    · intro ls H locs hl hP hD hS
      refine lv_iload_n hx hb dX6_save_11 rfl (lv_at hl 0 rfl) ?_
      refine lv_sipush (v := 645) hx hb dX6_save_12 (by decide) ?_
      refine nv_ge hx hb 645 645 40 (by omega) (by omega) dX6_save_15 (by decide) (fun _ => ?_) (fun hc => absurd hc (by omega))
      refine lv_aload_n hx hb dX6_save_40 rfl (lv_at hl 1 rfl) ?_
      refine lv_dup hx hb dX6_save_41 rfl ?_
      refine va_get (D := G) (ci := 4) (C := RX6) (T := TX6) (N := 15) hx hb hw in_X6 hown hK hP 0 rfl rfl 6 (by decide) (hw _ aw_877) (fun _ h9 => h9) rfl dX6_save_42 ?_
      refine lv_iconst (v := 1) hx hb dX6_save_45 (by decide) ?_
      refine nv_isub hx hb states 1 (by omega) dX6_save_46 ?_
      refine nv_put (D := G) (ci := 4) (ty := .int) (v := .int (nI (states - 1))) (C := RX6) (T := TX6) (N := 15) hx hb hw in_X6 tyX6 tyX6_ok nmX6 hown hK hP hD hS 0 rfl rfl 6 (by decide) (hw _ aw_877) (fun _ h9 => h9) rfl (by decide +kernel) rfl rfl (Nat.le_of_ble_eq_true rfl) dX6_save_47 (ws' := [mdC q refusal isShot (states - 1) length at_ good runs did, rwC (q 1) cI 129 now, rwC (q 4) cI 774 (it L_X6_save_11 0 645 book)].flatten) rfl (fun H locs hP hD hS => ?_)
      exact hM_12 (states - 1) (it L_X6_save_11 0 645 book) _ _ _ (if_pos c_1).symm (if_pos c_1).symm (lv_sub hl [1] rfl) hP hD hS
