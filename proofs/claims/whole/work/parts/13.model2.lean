set_option maxRecDepth 100000 in
set_option maxHeartbeats 4000000 in
theorem k_X6_pass (l : Launch) (G : va_G) (cI cS cL : ClassId) (q : Nat → Nat) (refusal : Int32) (isShot : Bool) (states : Nat) (length : Nat) (at_ : Nat) (good : Bool) (runs : Bool) (did : Int32) (now : Nat → Int32) (book : Nat → Int32) (pulls : Nat → Int32) (n : Int32) (hI : InvB now) (hst : states ≤ 6) (hrf : ¬ (((f_X6_refused (bI (if (f_X6_in n.toInt64 (1 : Int64) (200 : Int64)) = true then false else true))).1) = true)) : Ct l G (tyl cI cS cL) yX6_pass cX6_pass 2 (some (Jvm.ClassFile.FieldType.int)) 5 116 0 0 [.ref (q 0), .int n] [mdC q refusal isShot states length at_ good runs did, rwC (q 1) cI 129 now, rwC (q 4) cI 774 book, rwC (q 5) cI 8 pulls].flatten (f_X6_pass states now book pulls n) (fun u => some (.int u.1)) (fun u => [mdC q u.2.1 isShot u.2.2.1 length at_ good runs did, rwC (q 1) cI 129 u.2.2.2.1, rwC (q 4) cI 774 u.2.2.2.2.1, rwC (q 5) cI 8 u.2.2.2.2.2].flatten) := by
  refine Ct.of (by decide +kernel) (Nat.le_of_ble_eq_true rfl) ?_
  intro p e s m args below meth c A ls hx hb hr hml hw hown hlocks hin hK hN hP hD hS hA hl
  have hown : s.vm.findClass RX6 = some m.cls := hown
  have X : Cx p s m args c cX6_pass 2 RX6 G (tyl cI cS cL) := ⟨hx, hb, hml, hown, hw, hK, hN⟩
  have hP : va_P G classes [mdC q refusal isShot states length at_ good runs did, rwC (q 1) cI 129 now, rwC (q 4) cI 774 book, rwC (q 5) cI 8 pulls].flatten s.heap := hP
  have hl : lv_has ls 2 [(0, .ref (q 0)), (1, .int n)] := hl
  generalize hQQ : MQ below _ args s 0 0 A = QQ
  refine lv_aload_n hx hb dX6_pass_0 rfl (lv_at hl 0 rfl) ?_
  refine lv_iload_n hx hb dX6_pass_1 rfl (lv_at hl 1 rfl) ?_
  refine lv_i2l hx hb dX6_pass_2 rfl ?_
  refine lv_lconst (v := 1) hx hb dX6_pass_3 (by decide) ?_
  refine lv_ldc2 hx hb hown (hw _ aw_925) dX6_pass_4 ?_
  refine ct_callS (As := [.long n.toInt64, .long (1 : Int64), .long (200 : Int64)]) (rest := [.ref (q 0)]) X hP hD hS hA (k_X6_in l G cI cS cL  n.toInt64 (1 : Int64) (200 : Int64)) cq_X6_in aw_926 ⟨Nat.le_of_ble_eq_true rfl, Nat.le_of_ble_eq_true rfl⟩ ([] : List Nat) (cs := []) rfl (by decide) (cs' := []) rfl rfl rfl hl.1 rfl (Nat.le_of_ble_eq_true rfl) dX6_pass_7 ⟨Nat.zero_le _, Nat.zero_le _⟩ rfl (bs' := [mdC q refusal isShot states length at_ good runs did, rwC (q 1) cI 129 now, rwC (q 4) cI 774 book, rwC (q 5) cI 8 pulls]) rfl (fun H locs hP hD hS => ?_)
  have hM_5 : ∀ (v_4 : Bool) (ls : Array Slot) (H : Heap) (locs : List Loc), v_4 = (if (f_X6_in n.toInt64 (1 : Int64) (200 : Int64)) = true then false else true) → lv_has ls 2 [(0, .ref (q 0)), (1, .int n)] → va_P G classes [mdC q refusal isShot states length at_ good runs did, rwC (q 1) cI 129 now, rwC (q 4) cI 774 book, rwC (q 5) cI 8 pulls].flatten H → va_D A [mdC q refusal isShot states length at_ good runs did, rwC (q 1) cI 129 now, rwC (q 4) cI 774 book, rwC (q 5) cI 8 pulls].flatten → va_S A s.heap H locs → W p l e ({ frames := 5, cells := 0, slots := 0, locals := 116 } : Room) s m args below meth c H locs 0 0 QQ (F0 m 18 ls [.int (bI v_4), .ref (q 0)]) := by
    intro v_4 ls H locs e_v_4 hl hP hD hS
    subst e_v_4
    refine ct_callV (As := [.int (bI (if (f_X6_in n.toInt64 (1 : Int64) (200 : Int64)) = true then false else true))]) (rest := []) X hP hD hS hA (k_X6_refused l G cI cS cL q refusal isShot states length at_ good runs did (bI (if (f_X6_in n.toInt64 (1 : Int64) (200 : Int64)) = true then false else true))) cp_X6_refused aw_929 ⟨Nat.le_of_ble_eq_true rfl, Nat.le_of_ble_eq_true rfl⟩ [0] (cs := [mdC q refusal isShot states length at_ good runs did]) rfl (by decide) (cs' := [mdC q ((f_X6_refused (bI (if (f_X6_in n.toInt64 (1 : Int64) (200 : Int64)) = true then false else true))).2) isShot states length at_ good runs did]) rfl rfl 4 rfl rfl (q0 := 0) rfl rfl hl.1 rfl (Nat.le_of_ble_eq_true rfl) dX6_pass_18 ⟨Nat.zero_le _, Nat.zero_le _⟩ rfl (bs' := [mdC q ((f_X6_refused (bI (if (f_X6_in n.toInt64 (1 : Int64) (200 : Int64)) = true then false else true))).2) isShot states length at_ good runs did, rwC (q 1) cI 129 now, rwC (q 4) cI 774 book, rwC (q 5) cI 8 pulls]) rfl (fun H locs hP hD hS => ?_)
    refine bv_ifeq hx hb ((f_X6_refused (bI (if (f_X6_in n.toInt64 (1 : Int64) (200 : Int64)) = true then false else true))).1) 26 dX6_pass_21 (by decide) (fun c_6 => ?_) (fun c => absurd c hrf)
    refine lv_aload_n hx hb dX6_pass_26 rfl (lv_at hl 0 rfl) ?_
    refine ct_callV (As := []) (rest := []) X hP hD hS hA (k_X6_save l G cI cS cL q ((f_X6_refused (bI (if (f_X6_in n.toInt64 (1 : Int64) (200 : Int64)) = true then false else true))).2) isShot states length at_ good runs did now book hst) cp_X6_save aw_933 ⟨Nat.le_of_ble_eq_true rfl, Nat.le_of_ble_eq_true rfl⟩ [0, 1, 2] (cs := [mdC q ((f_X6_refused (bI (if (f_X6_in n.toInt64 (1 : Int64) (200 : Int64)) = true then false else true))).2) isShot states length at_ good runs did, rwC (q 1) cI 129 now, rwC (q 4) cI 774 book]) rfl (by decide) (cs' := [mdC q ((f_X6_refused (bI (if (f_X6_in n.toInt64 (1 : Int64) (200 : Int64)) = true then false else true))).2) isShot ((f_X6_save states now book).1) length at_ good runs did, rwC (q 1) cI 129 now, rwC (q 4) cI 774 ((f_X6_save states now book).2)]) rfl rfl 4 rfl rfl (q0 := 0) rfl rfl hl.1 rfl (Nat.le_of_ble_eq_true rfl) dX6_pass_27 ⟨Nat.zero_le _, Nat.zero_le _⟩ rfl (bs' := [mdC q ((f_X6_refused (bI (if (f_X6_in n.toInt64 (1 : Int64) (200 : Int64)) = true then false else true))).2) isShot ((f_X6_save states now book).1) length at_ good runs did, rwC (q 1) cI 129 now, rwC (q 4) cI 774 ((f_X6_save states now book).2), rwC (q 5) cI 8 pulls]) rfl (fun H locs hP hD hS => ?_)
    refine lv_aload_n hx hb dX6_pass_30 rfl (lv_at hl 0 rfl) ?_
    refine lv_aload_n hx hb dX6_pass_31 rfl (lv_at hl 0 rfl) ?_
    refine va_get (D := G) (ci := 4) (C := RX6) (T := TX6) (N := 15) hx hb hw in_X6 hown hK hP 0 rfl rfl 1 (by decide) (hw _ aw_872) (fun _ h9 => h9) rfl dX6_pass_32 ?_
    refine lv_iload_n hx hb dX6_pass_35 rfl (lv_at hl 1 rfl) ?_
    refine ct_callV (As := [.ref (q 1), .int n]) (rest := []) X hP hD hS hA (k_X6_goTicks l G cI cS cL q (q 1) ((f_X6_refused (bI (if (f_X6_in n.toInt64 (1 : Int64) (200 : Int64)) = true then false else true))).2) isShot ((f_X6_save states now book).1) length at_ good runs did pulls now n hI) cp_X6_goTicks aw_937 ⟨Nat.le_of_ble_eq_true rfl, Nat.le_of_ble_eq_true rfl⟩ [0, 3, 1] (cs := [mdC q ((f_X6_refused (bI (if (f_X6_in n.toInt64 (1 : Int64) (200 : Int64)) = true then false else true))).2) isShot ((f_X6_save states now book).1) length at_ good runs did, rwC (q 5) cI 8 pulls, rwC (q 1) cI 129 now]) rfl (by decide) (cs' := [mdC q ((f_X6_refused (bI (if (f_X6_in n.toInt64 (1 : Int64) (200 : Int64)) = true then false else true))).2) isShot ((f_X6_save states now book).1) length at_ good runs did, rwC (q 5) cI 8 ((f_X6_goTicks pulls now n).2.1), rwC (q 1) cI 129 ((f_X6_goTicks pulls now n).2.2)]) rfl rfl 4 rfl rfl (q0 := 0) rfl rfl hl.1 rfl (Nat.le_of_ble_eq_true rfl) dX6_pass_36 ⟨Nat.zero_le _, Nat.zero_le _⟩ rfl (bs' := [mdC q ((f_X6_refused (bI (if (f_X6_in n.toInt64 (1 : Int64) (200 : Int64)) = true then false else true))).2) isShot ((f_X6_save states now book).1) length at_ good runs did, rwC (q 1) cI 129 ((f_X6_goTicks pulls now n).2.2), rwC (q 4) cI 774 ((f_X6_save states now book).2), rwC (q 5) cI 8 ((f_X6_goTicks pulls now n).2.1)]) rfl (fun H locs hP hD hS => ?_)
    rw [← hQQ]; exact W.iret hx hb hr (ct_end (F := (f_X6_pass states now book pulls n)) (u := ((f_X6_goTicks pulls now n).1, (f_X6_refused (bI (if (f_X6_in n.toInt64 (1 : Int64) (200 : Int64)) = true then false else true))).2, (f_X6_save states now book).1, (f_X6_goTicks pulls now n).2.2, (f_X6_save states now book).2, (f_X6_goTicks pulls now n).2.1)) (rf := (fun u => some (.int u.1))) (wf := (fun u => [mdC q u.2.1 isShot u.2.2.1 length at_ good runs did, rwC (q 1) cI 129 u.2.2.2.1, rwC (q 4) cI 774 u.2.2.2.2.1, rwC (q 5) cI 8 u.2.2.2.2.2].flatten)) rfl rfl hP hD hS) hS.2.2 dX6_pass_39
  refine bv_ifeq hx hb (f_X6_in n.toInt64 (1 : Int64) (200 : Int64)) 17 dX6_pass_10 (by decide) (fun c_1 => ?_) (fun c_1 => ?_)
  · refine lv_iconst (v := 1) hx hb dX6_pass_17 (by decide) ?_
    exact hM_5 true _ _ _ (if_neg c_1).symm (lv_sub hl [0, 1] rfl) hP hD hS
  · refine lv_iconst (v := 0) hx hb dX6_pass_13 (by decide) ?_
    refine lv_goto (tgt := 18) hx hb dX6_pass_14 (by decide) ?_
    exact hM_5 false _ _ _ (if_pos c_1).symm (lv_sub hl [0, 1] rfl) hP hD hS
set_option maxRecDepth 100000 in
set_option maxHeartbeats 4000000 in
theorem k_X6_pass_R (l : Launch) (G : va_G) (cI cS cL : ClassId) (q : Nat → Nat) (refusal : Int32) (isShot : Bool) (states : Nat) (length : Nat) (at_ : Nat) (good : Bool) (runs : Bool) (did : Int32) (now : Nat → Int32) (book : Nat → Int32) (pulls : Nat → Int32) (n : Int32) (hrf : ((f_X6_refused (bI (if (f_X6_in n.toInt64 (1 : Int64) (200 : Int64)) = true then false else true))).1) = true) : Ct l G (tyl cI cS cL) yX6_pass cX6_pass 2 (some (Jvm.ClassFile.FieldType.int)) 1 25 0 0 [.ref (q 0), .int n] [mdC q refusal isShot states length at_ good runs did, rwC (q 1) cI 129 now, rwC (q 4) cI 774 book, rwC (q 5) cI 8 pulls].flatten (f_X6_pass_R n) (fun u => some (.int u.1)) (fun u => [mdC q u.2 isShot states length at_ good runs did, rwC (q 1) cI 129 now, rwC (q 4) cI 774 book, rwC (q 5) cI 8 pulls].flatten) := by
  refine Ct.of (by decide +kernel) (Nat.le_of_ble_eq_true rfl) ?_
  intro p e s m args below meth c A ls hx hb hr hml hw hown hlocks hin hK hN hP hD hS hA hl
  have hown : s.vm.findClass RX6 = some m.cls := hown
  have X : Cx p s m args c cX6_pass 2 RX6 G (tyl cI cS cL) := ⟨hx, hb, hml, hown, hw, hK, hN⟩
  have hP : va_P G classes [mdC q refusal isShot states length at_ good runs did, rwC (q 1) cI 129 now, rwC (q 4) cI 774 book, rwC (q 5) cI 8 pulls].flatten s.heap := hP
  have hl : lv_has ls 2 [(0, .ref (q 0)), (1, .int n)] := hl
  generalize hQQ : MQ below _ args s 0 0 A = QQ
  refine lv_aload_n hx hb dX6_pass_0 rfl (lv_at hl 0 rfl) ?_
  refine lv_iload_n hx hb dX6_pass_1 rfl (lv_at hl 1 rfl) ?_
  refine lv_i2l hx hb dX6_pass_2 rfl ?_
  refine lv_lconst (v := 1) hx hb dX6_pass_3 (by decide) ?_
  refine lv_ldc2 hx hb hown (hw _ aw_925) dX6_pass_4 ?_
  refine ct_callS (As := [.long n.toInt64, .long (1 : Int64), .long (200 : Int64)]) (rest := [.ref (q 0)]) X hP hD hS hA (k_X6_in l G cI cS cL  n.toInt64 (1 : Int64) (200 : Int64)) cq_X6_in aw_926 ⟨Nat.le_of_ble_eq_true rfl, Nat.le_of_ble_eq_true rfl⟩ ([] : List Nat) (cs := []) rfl (by decide) (cs' := []) rfl rfl rfl hl.1 rfl (Nat.le_of_ble_eq_true rfl) dX6_pass_7 ⟨Nat.zero_le _, Nat.zero_le _⟩ rfl (bs' := [mdC q refusal isShot states length at_ good runs did, rwC (q 1) cI 129 now, rwC (q 4) cI 774 book, rwC (q 5) cI 8 pulls]) rfl (fun H locs hP hD hS => ?_)
  have hM_5 : ∀ (v_4 : Bool) (ls : Array Slot) (H : Heap) (locs : List Loc), v_4 = (if (f_X6_in n.toInt64 (1 : Int64) (200 : Int64)) = true then false else true) → lv_has ls 2 [(0, .ref (q 0)), (1, .int n)] → va_P G classes [mdC q refusal isShot states length at_ good runs did, rwC (q 1) cI 129 now, rwC (q 4) cI 774 book, rwC (q 5) cI 8 pulls].flatten H → va_D A [mdC q refusal isShot states length at_ good runs did, rwC (q 1) cI 129 now, rwC (q 4) cI 774 book, rwC (q 5) cI 8 pulls].flatten → va_S A s.heap H locs → W p l e ({ frames := 1, cells := 0, slots := 0, locals := 25 } : Room) s m args below meth c H locs 0 0 QQ (F0 m 18 ls [.int (bI v_4), .ref (q 0)]) := by
    intro v_4 ls H locs e_v_4 hl hP hD hS
    subst e_v_4
    refine ct_callV (As := [.int (bI (if (f_X6_in n.toInt64 (1 : Int64) (200 : Int64)) = true then false else true))]) (rest := []) X hP hD hS hA (k_X6_refused l G cI cS cL q refusal isShot states length at_ good runs did (bI (if (f_X6_in n.toInt64 (1 : Int64) (200 : Int64)) = true then false else true))) cp_X6_refused aw_929 ⟨Nat.le_of_ble_eq_true rfl, Nat.le_of_ble_eq_true rfl⟩ [0] (cs := [mdC q refusal isShot states length at_ good runs did]) rfl (by decide) (cs' := [mdC q ((f_X6_refused (bI (if (f_X6_in n.toInt64 (1 : Int64) (200 : Int64)) = true then false else true))).2) isShot states length at_ good runs did]) rfl rfl 4 rfl rfl (q0 := 0) rfl rfl hl.1 rfl (Nat.le_of_ble_eq_true rfl) dX6_pass_18 ⟨Nat.zero_le _, Nat.zero_le _⟩ rfl (bs' := [mdC q ((f_X6_refused (bI (if (f_X6_in n.toInt64 (1 : Int64) (200 : Int64)) = true then false else true))).2) isShot states length at_ good runs did, rwC (q 1) cI 129 now, rwC (q 4) cI 774 book, rwC (q 5) cI 8 pulls]) rfl (fun H locs hP hD hS => ?_)
    refine bv_ifeq hx hb ((f_X6_refused (bI (if (f_X6_in n.toInt64 (1 : Int64) (200 : Int64)) = true then false else true))).1) 26 dX6_pass_21 (by decide) (fun c => absurd hrf c) (fun c_6 => ?_)
    refine lv_iconst (v := 0) hx hb dX6_pass_24 (by decide) ?_
    rw [← hQQ]; exact W.iret hx hb hr (ct_end (F := (f_X6_pass_R n)) (u := ((0 : Int32), (f_X6_refused (bI (if (f_X6_in n.toInt64 (1 : Int64) (200 : Int64)) = true then false else true))).2)) (rf := (fun u => some (.int u.1))) (wf := (fun u => [mdC q u.2 isShot states length at_ good runs did, rwC (q 1) cI 129 now, rwC (q 4) cI 774 book, rwC (q 5) cI 8 pulls].flatten)) rfl rfl hP hD hS) hS.2.2 dX6_pass_25
  refine bv_ifeq hx hb (f_X6_in n.toInt64 (1 : Int64) (200 : Int64)) 17 dX6_pass_10 (by decide) (fun c_1 => ?_) (fun c_1 => ?_)
  · refine lv_iconst (v := 1) hx hb dX6_pass_17 (by decide) ?_
    exact hM_5 true _ _ _ (if_neg c_1).symm (lv_sub hl [0, 1] rfl) hP hD hS
  · refine lv_iconst (v := 0) hx hb dX6_pass_13 (by decide) ?_
    refine lv_goto (tgt := 18) hx hb dX6_pass_14 (by decide) ?_
    exact hM_5 false _ _ _ (if_pos c_1).symm (lv_sub hl [0, 1] rfl) hP hD hS
set_option maxRecDepth 100000 in
set_option maxHeartbeats 4000000 in
theorem k_X6_doKick (l : Launch) (G : va_G) (cI cS cL : ClassId) (q : Nat → Nat) (refusal : Int32) (isShot : Bool) (states : Nat) (length : Nat) (at_ : Nat) (good : Bool) (runs : Bool) (did : Int32) (now : Nat → Int32) (k : Nat) (by_ : Int32) (hk : k < 8) : Ct l G (tyl cI cS cL) yX6_doKick cX6_doKick 5 (some (Jvm.ClassFile.FieldType.int)) 1 20 0 0 [.ref (q 0), .int (nI k), .int by_] [mdC q refusal isShot states length at_ good runs did, rwC (q 1) cI 129 now].flatten (f_X6_doKick now k by_) (fun u => some (.int u.1)) (fun u => [mdC q refusal isShot states length at_ good runs did, rwC (q 1) cI 129 u.2].flatten) := by
  refine Ct.of (by decide +kernel) (Nat.le_of_ble_eq_true rfl) ?_
  intro p e s m args below meth c A ls hx hb hr hml hw hown hlocks hin hK hN hP hD hS hA hl
  have hown : s.vm.findClass RX6 = some m.cls := hown
  have X : Cx p s m args c cX6_doKick 5 RX6 G (tyl cI cS cL) := ⟨hx, hb, hml, hown, hw, hK, hN⟩
  have hP : va_P G classes [mdC q refusal isShot states length at_ good runs did, rwC (q 1) cI 129 now].flatten s.heap := hP
  have hl : lv_has ls 5 [(0, .ref (q 0)), (1, .int (nI k)), (2, .int by_)] := hl
  generalize hQQ : MQ below _ args s 0 0 A = QQ
  refine lv_iload_n hx hb dX6_doKick_0 rfl (lv_at hl 1 rfl) ?_
  refine ct_callS (As := [.int (nI k)]) (rest := []) X hP hD hS hA (k_X6_spot l G cI cS cL  k) cq_X6_spot aw_951 ⟨Nat.le_of_ble_eq_true rfl, Nat.le_of_ble_eq_true rfl⟩ ([] : List Nat) (cs := []) rfl (by decide) (cs' := []) rfl rfl rfl hl.1 rfl (Nat.le_of_ble_eq_true rfl) dX6_doKick_1 ⟨Nat.zero_le _, Nat.zero_le _⟩ rfl (bs' := [mdC q refusal isShot states length at_ good runs did, rwC (q 1) cI 129 now]) rfl (fun H locs hP hD hS => ?_)
  refine lv_istore_n (lv' := [(3, .int (nI (6 + (7 * k)))), (0, .ref (q 0)), (1, .int (nI k)), (2, .int by_)]) hx hb dX6_doKick_4 rfl hl (by decide) rfl (fun ls hl => ?_)
  refine lv_aload_n hx hb dX6_doKick_5 rfl (lv_at hl 1 rfl) ?_
  refine va_get (D := G) (ci := 4) (C := RX6) (T := TX6) (N := 15) hx hb hw in_X6 hown hK hP 0 rfl rfl 1 (by decide) (hw _ aw_872) (fun _ h9 => h9) rfl dX6_doKick_6 ?_
  refine lv_iload_n hx hb dX6_doKick_9 rfl (lv_at hl 0 rfl) ?_
  refine lv_iconst (v := 2) hx hb dX6_doKick_10 (by decide) ?_
  refine nv_iadd hx hb (6 + (7 * k)) 2 dX6_doKick_11 ?_
  refine nv_iald hx hb hK hP 1 0 rfl rfl ((6 + (7 * k)) + 2) (by omega) (by decide) dX6_doKick_12 ?_
  refine lv_iload_n hx hb dX6_doKick_13 rfl (lv_at hl 3 rfl) ?_
  refine lv_iadd hx hb dX6_doKick_14 ?_
  refine lv_sipush (v := 1000) hx hb dX6_doKick_15 (by decide) ?_
  refine lv_irem hx hb dX6_doKick_18 (by first | decide | assumption) ?_
  refine lv_istore (lv' := [(4, .int (((now ((6 + (7 * k)) + 2)) + by_) - ((now ((6 + (7 * k)) + 2)) + by_) / (1000 : Int32) * (1000 : Int32))), (3, .int (nI (6 + (7 * k)))), (0, .ref (q 0)), (1, .int (nI k)), (2, .int by_)]) hx hb dX6_doKick_19 hl (by decide) rfl (fun ls hl => ?_)
  refine lv_aload_n hx hb dX6_doKick_21 rfl (lv_at hl 2 rfl) ?_
  refine va_get (D := G) (ci := 4) (C := RX6) (T := TX6) (N := 15) hx hb hw in_X6 hown hK hP 0 rfl rfl 1 (by decide) (hw _ aw_872) (fun _ h9 => h9) rfl dX6_doKick_22 ?_
  refine lv_iload_n hx hb dX6_doKick_25 rfl (lv_at hl 1 rfl) ?_
  refine lv_iconst (v := 2) hx hb dX6_doKick_26 (by decide) ?_
  refine nv_iadd hx hb (6 + (7 * k)) 2 dX6_doKick_27 ?_
  refine lv_iload hx hb dX6_doKick_28 (lv_at hl 0 rfl) ?_
  have hM_5 : ∀ (v_4 : Int32) (ls : Array Slot) (H : Heap) (locs : List Loc), v_4 = (if 0 ≤ (((now ((6 + (7 * k)) + 2)) + by_) - ((now ((6 + (7 * k)) + 2)) + by_) / (1000 : Int32) * (1000 : Int32)) then (((now ((6 + (7 * k)) + 2)) + by_) - ((now ((6 + (7 * k)) + 2)) + by_) / (1000 : Int32) * (1000 : Int32)) else ((((now ((6 + (7 * k)) + 2)) + by_) - ((now ((6 + (7 * k)) + 2)) + by_) / (1000 : Int32) * (1000 : Int32)) + (1000 : Int32))) → lv_has ls 5 [(3, .int (nI (6 + (7 * k)))), (0, .ref (q 0)), (2, .int by_)] → va_P G classes [mdC q refusal isShot states length at_ good runs did, rwC (q 1) cI 129 now].flatten H → va_D A [mdC q refusal isShot states length at_ good runs did, rwC (q 1) cI 129 now].flatten → va_S A s.heap H locs → W p l e ({ frames := 1, cells := 0, slots := 0, locals := 20 } : Room) s m args below meth c H locs 0 0 QQ (F0 m 44 ls [.int v_4, .int (nI ((6 + (7 * k)) + 2)), .ref (q 1)]) := by
    intro v_4 ls H locs e_v_4 hl hP hD hS
    subst e_v_4
    refine nv_iast hx hb hK hP hD hS 1 0 rfl rfl ((6 + (7 * k)) + 2) (by omega) (by decide) dX6_doKick_44 (ws' := [mdC q refusal isShot states length at_ good runs did, rwC (q 1) cI 129 (upd now ((6 + (7 * k)) + 2) (if 0 ≤ (((now ((6 + (7 * k)) + 2)) + by_) - ((now ((6 + (7 * k)) + 2)) + by_) / (1000 : Int32) * (1000 : Int32)) then (((now ((6 + (7 * k)) + 2)) + by_) - ((now ((6 + (7 * k)) + 2)) + by_) / (1000 : Int32) * (1000 : Int32)) else ((((now ((6 + (7 * k)) + 2)) + by_) - ((now ((6 + (7 * k)) + 2)) + by_) / (1000 : Int32) * (1000 : Int32)) + (1000 : Int32))))].flatten) rfl (fun H locs hP hD hS => ?_)
    refine lv_aload_n hx hb dX6_doKick_45 rfl (lv_at hl 1 rfl) ?_
    refine va_get (D := G) (ci := 4) (C := RX6) (T := TX6) (N := 15) hx hb hw in_X6 hown hK hP 0 rfl rfl 1 (by decide) (hw _ aw_872) (fun _ h9 => h9) rfl dX6_doKick_46 ?_
    refine lv_iload_n hx hb dX6_doKick_49 rfl (lv_at hl 0 rfl) ?_
    refine lv_bipush (v := 6) hx hb dX6_doKick_50 (by decide) ?_
    refine nv_iadd hx hb (6 + (7 * k)) 6 dX6_doKick_52 ?_
    refine lv_dup2_11 hx hb dX6_doKick_53 rfl rfl ?_
    refine nv_iald hx hb hK hP 1 0 rfl rfl ((6 + (7 * k)) + 6) (by omega) (by decide) dX6_doKick_54 ?_
    refine lv_iload_n hx hb dX6_doKick_55 rfl (lv_at hl 2 rfl) ?_
    refine lv_iadd hx hb dX6_doKick_56 ?_
    refine nv_iast hx hb hK hP hD hS 1 0 rfl rfl ((6 + (7 * k)) + 6) (by omega) (by decide) dX6_doKick_57 (ws' := [mdC q refusal isShot states length at_ good runs did, rwC (q 1) cI 129 (upd (upd now ((6 + (7 * k)) + 2) (if 0 ≤ (((now ((6 + (7 * k)) + 2)) + by_) - ((now ((6 + (7 * k)) + 2)) + by_) / (1000 : Int32) * (1000 : Int32)) then (((now ((6 + (7 * k)) + 2)) + by_) - ((now ((6 + (7 * k)) + 2)) + by_) / (1000 : Int32) * (1000 : Int32)) else ((((now ((6 + (7 * k)) + 2)) + by_) - ((now ((6 + (7 * k)) + 2)) + by_) / (1000 : Int32) * (1000 : Int32)) + (1000 : Int32)))) ((6 + (7 * k)) + 6) (((upd now ((6 + (7 * k)) + 2) (if 0 ≤ (((now ((6 + (7 * k)) + 2)) + by_) - ((now ((6 + (7 * k)) + 2)) + by_) / (1000 : Int32) * (1000 : Int32)) then (((now ((6 + (7 * k)) + 2)) + by_) - ((now ((6 + (7 * k)) + 2)) + by_) / (1000 : Int32) * (1000 : Int32)) else ((((now ((6 + (7 * k)) + 2)) + by_) - ((now ((6 + (7 * k)) + 2)) + by_) / (1000 : Int32) * (1000 : Int32)) + (1000 : Int32)))) ((6 + (7 * k)) + 6)) + by_))].flatten) rfl (fun H locs hP hD hS => ?_)
    refine lv_aload_n hx hb dX6_doKick_58 rfl (lv_at hl 1 rfl) ?_
    refine va_get (D := G) (ci := 4) (C := RX6) (T := TX6) (N := 15) hx hb hw in_X6 hown hK hP 0 rfl rfl 1 (by decide) (hw _ aw_872) (fun _ h9 => h9) rfl dX6_doKick_59 ?_
    refine lv_bipush (v := 127) hx hb dX6_doKick_62 (by decide) ?_
    refine lv_dup2_11 hx hb dX6_doKick_64 rfl rfl ?_
    refine nv_iald hx hb hK hP 1 0 rfl rfl 127 (by omega) (by decide) dX6_doKick_65 ?_
    refine lv_iconst (v := 1) hx hb dX6_doKick_66 (by decide) ?_
    refine lv_iadd hx hb dX6_doKick_67 ?_
    refine nv_iast hx hb hK hP hD hS 1 0 rfl rfl 127 (by omega) (by decide) dX6_doKick_68 (ws' := [mdC q refusal isShot states length at_ good runs did, rwC (q 1) cI 129 (upd (upd (upd now ((6 + (7 * k)) + 2) (if 0 ≤ (((now ((6 + (7 * k)) + 2)) + by_) - ((now ((6 + (7 * k)) + 2)) + by_) / (1000 : Int32) * (1000 : Int32)) then (((now ((6 + (7 * k)) + 2)) + by_) - ((now ((6 + (7 * k)) + 2)) + by_) / (1000 : Int32) * (1000 : Int32)) else ((((now ((6 + (7 * k)) + 2)) + by_) - ((now ((6 + (7 * k)) + 2)) + by_) / (1000 : Int32) * (1000 : Int32)) + (1000 : Int32)))) ((6 + (7 * k)) + 6) (((upd now ((6 + (7 * k)) + 2) (if 0 ≤ (((now ((6 + (7 * k)) + 2)) + by_) - ((now ((6 + (7 * k)) + 2)) + by_) / (1000 : Int32) * (1000 : Int32)) then (((now ((6 + (7 * k)) + 2)) + by_) - ((now ((6 + (7 * k)) + 2)) + by_) / (1000 : Int32) * (1000 : Int32)) else ((((now ((6 + (7 * k)) + 2)) + by_) - ((now ((6 + (7 * k)) + 2)) + by_) / (1000 : Int32) * (1000 : Int32)) + (1000 : Int32)))) ((6 + (7 * k)) + 6)) + by_)) 127 (((upd (upd now ((6 + (7 * k)) + 2) (if 0 ≤ (((now ((6 + (7 * k)) + 2)) + by_) - ((now ((6 + (7 * k)) + 2)) + by_) / (1000 : Int32) * (1000 : Int32)) then (((now ((6 + (7 * k)) + 2)) + by_) - ((now ((6 + (7 * k)) + 2)) + by_) / (1000 : Int32) * (1000 : Int32)) else ((((now ((6 + (7 * k)) + 2)) + by_) - ((now ((6 + (7 * k)) + 2)) + by_) / (1000 : Int32) * (1000 : Int32)) + (1000 : Int32)))) ((6 + (7 * k)) + 6) (((upd now ((6 + (7 * k)) + 2) (if 0 ≤ (((now ((6 + (7 * k)) + 2)) + by_) - ((now ((6 + (7 * k)) + 2)) + by_) / (1000 : Int32) * (1000 : Int32)) then (((now ((6 + (7 * k)) + 2)) + by_) - ((now ((6 + (7 * k)) + 2)) + by_) / (1000 : Int32) * (1000 : Int32)) else ((((now ((6 + (7 * k)) + 2)) + by_) - ((now ((6 + (7 * k)) + 2)) + by_) / (1000 : Int32) * (1000 : Int32)) + (1000 : Int32)))) ((6 + (7 * k)) + 6)) + by_)) 127) + (1 : Int32)))].flatten) rfl (fun H locs hP hD hS => ?_)
    refine lv_aload_n hx hb dX6_doKick_69 rfl (lv_at hl 1 rfl) ?_
    refine va_get (D := G) (ci := 4) (C := RX6) (T := TX6) (N := 15) hx hb hw in_X6 hown hK hP 0 rfl rfl 1 (by decide) (hw _ aw_872) (fun _ h9 => h9) rfl dX6_doKick_70 ?_
    refine lv_iload_n hx hb dX6_doKick_73 rfl (lv_at hl 0 rfl) ?_
    refine lv_iconst (v := 2) hx hb dX6_doKick_74 (by decide) ?_
    refine nv_iadd hx hb (6 + (7 * k)) 2 dX6_doKick_75 ?_
    refine nv_iald hx hb hK hP 1 0 rfl rfl ((6 + (7 * k)) + 2) (by omega) (by decide) dX6_doKick_76 ?_
    rw [← hQQ]; exact W.iret hx hb hr (ct_end (F := (f_X6_doKick now k by_)) (u := (((upd (upd (upd now ((6 + (7 * k)) + 2) (if 0 ≤ (((now ((6 + (7 * k)) + 2)) + by_) - ((now ((6 + (7 * k)) + 2)) + by_) / (1000 : Int32) * (1000 : Int32)) then (((now ((6 + (7 * k)) + 2)) + by_) - ((now ((6 + (7 * k)) + 2)) + by_) / (1000 : Int32) * (1000 : Int32)) else ((((now ((6 + (7 * k)) + 2)) + by_) - ((now ((6 + (7 * k)) + 2)) + by_) / (1000 : Int32) * (1000 : Int32)) + (1000 : Int32)))) ((6 + (7 * k)) + 6) (((upd now ((6 + (7 * k)) + 2) (if 0 ≤ (((now ((6 + (7 * k)) + 2)) + by_) - ((now ((6 + (7 * k)) + 2)) + by_) / (1000 : Int32) * (1000 : Int32)) then (((now ((6 + (7 * k)) + 2)) + by_) - ((now ((6 + (7 * k)) + 2)) + by_) / (1000 : Int32) * (1000 : Int32)) else ((((now ((6 + (7 * k)) + 2)) + by_) - ((now ((6 + (7 * k)) + 2)) + by_) / (1000 : Int32) * (1000 : Int32)) + (1000 : Int32)))) ((6 + (7 * k)) + 6)) + by_)) 127 (((upd (upd now ((6 + (7 * k)) + 2) (if 0 ≤ (((now ((6 + (7 * k)) + 2)) + by_) - ((now ((6 + (7 * k)) + 2)) + by_) / (1000 : Int32) * (1000 : Int32)) then (((now ((6 + (7 * k)) + 2)) + by_) - ((now ((6 + (7 * k)) + 2)) + by_) / (1000 : Int32) * (1000 : Int32)) else ((((now ((6 + (7 * k)) + 2)) + by_) - ((now ((6 + (7 * k)) + 2)) + by_) / (1000 : Int32) * (1000 : Int32)) + (1000 : Int32)))) ((6 + (7 * k)) + 6) (((upd now ((6 + (7 * k)) + 2) (if 0 ≤ (((now ((6 + (7 * k)) + 2)) + by_) - ((now ((6 + (7 * k)) + 2)) + by_) / (1000 : Int32) * (1000 : Int32)) then (((now ((6 + (7 * k)) + 2)) + by_) - ((now ((6 + (7 * k)) + 2)) + by_) / (1000 : Int32) * (1000 : Int32)) else ((((now ((6 + (7 * k)) + 2)) + by_) - ((now ((6 + (7 * k)) + 2)) + by_) / (1000 : Int32) * (1000 : Int32)) + (1000 : Int32)))) ((6 + (7 * k)) + 6)) + by_)) 127) + (1 : Int32))) ((6 + (7 * k)) + 2)), (upd (upd (upd now ((6 + (7 * k)) + 2) (if 0 ≤ (((now ((6 + (7 * k)) + 2)) + by_) - ((now ((6 + (7 * k)) + 2)) + by_) / (1000 : Int32) * (1000 : Int32)) then (((now ((6 + (7 * k)) + 2)) + by_) - ((now ((6 + (7 * k)) + 2)) + by_) / (1000 : Int32) * (1000 : Int32)) else ((((now ((6 + (7 * k)) + 2)) + by_) - ((now ((6 + (7 * k)) + 2)) + by_) / (1000 : Int32) * (1000 : Int32)) + (1000 : Int32)))) ((6 + (7 * k)) + 6) (((upd now ((6 + (7 * k)) + 2) (if 0 ≤ (((now ((6 + (7 * k)) + 2)) + by_) - ((now ((6 + (7 * k)) + 2)) + by_) / (1000 : Int32) * (1000 : Int32)) then (((now ((6 + (7 * k)) + 2)) + by_) - ((now ((6 + (7 * k)) + 2)) + by_) / (1000 : Int32) * (1000 : Int32)) else ((((now ((6 + (7 * k)) + 2)) + by_) - ((now ((6 + (7 * k)) + 2)) + by_) / (1000 : Int32) * (1000 : Int32)) + (1000 : Int32)))) ((6 + (7 * k)) + 6)) + by_)) 127 (((upd (upd now ((6 + (7 * k)) + 2) (if 0 ≤ (((now ((6 + (7 * k)) + 2)) + by_) - ((now ((6 + (7 * k)) + 2)) + by_) / (1000 : Int32) * (1000 : Int32)) then (((now ((6 + (7 * k)) + 2)) + by_) - ((now ((6 + (7 * k)) + 2)) + by_) / (1000 : Int32) * (1000 : Int32)) else ((((now ((6 + (7 * k)) + 2)) + by_) - ((now ((6 + (7 * k)) + 2)) + by_) / (1000 : Int32) * (1000 : Int32)) + (1000 : Int32)))) ((6 + (7 * k)) + 6) (((upd now ((6 + (7 * k)) + 2) (if 0 ≤ (((now ((6 + (7 * k)) + 2)) + by_) - ((now ((6 + (7 * k)) + 2)) + by_) / (1000 : Int32) * (1000 : Int32)) then (((now ((6 + (7 * k)) + 2)) + by_) - ((now ((6 + (7 * k)) + 2)) + by_) / (1000 : Int32) * (1000 : Int32)) else ((((now ((6 + (7 * k)) + 2)) + by_) - ((now ((6 + (7 * k)) + 2)) + by_) / (1000 : Int32) * (1000 : Int32)) + (1000 : Int32)))) ((6 + (7 * k)) + 6)) + by_)) 127) + (1 : Int32))))) (rf := (fun u => some (.int u.1))) (wf := (fun u => [mdC q refusal isShot states length at_ good runs did, rwC (q 1) cI 129 u.2].flatten)) rfl rfl hP hD hS) hS.2.2 dX6_doKick_77
  refine lv_if_ge (tgt := 42) hx hb dX6_doKick_30 (by decide) (fun c_1 => ?_) (fun c_1 => ?_)
  · refine lv_iload hx hb dX6_doKick_42 (lv_at hl 0 rfl) ?_
    exact hM_5 (((now ((6 + (7 * k)) + 2)) + by_) - ((now ((6 + (7 * k)) + 2)) + by_) / (1000 : Int32) * (1000 : Int32)) _ _ _ (if_pos c_1).symm (lv_sub hl [1, 2, 4] rfl) hP hD hS
  · refine lv_iload hx hb dX6_doKick_33 (lv_at hl 0 rfl) ?_
    refine lv_sipush (v := 1000) hx hb dX6_doKick_35 (by decide) ?_
    refine lv_iadd hx hb dX6_doKick_38 ?_
    refine lv_goto (tgt := 44) hx hb dX6_doKick_39 (by decide) ?_
    exact hM_5 ((((now ((6 + (7 * k)) + 2)) + by_) - ((now ((6 + (7 * k)) + 2)) + by_) / (1000 : Int32) * (1000 : Int32)) + (1000 : Int32)) _ _ _ (if_neg c_1).symm (lv_sub hl [1, 2, 4] rfl) hP hD hS
set_option maxRecDepth 100000 in
set_option maxHeartbeats 4000000 in
theorem k_X6_kick (l : Launch) (G : va_G) (cI cS cL : ClassId) (q : Nat → Nat) (refusal : Int32) (isShot : Bool) (states : Nat) (length : Nat) (at_ : Nat) (good : Bool) (runs : Bool) (did : Int32) (now : Nat → Int32) (book : Nat → Int32) (k : Nat) (by_ : Int32) (hk : k < 8) (hst : states ≤ 6) (hrf : ¬ (((f_X6_refused (if (f_X6_isClock (nI k)) = true then (if by_ = 0 then (2 : Int32) else (if (f_X6_in by_.toInt64 (-500 : Int64) (500 : Int64)) = true then (0 : Int32) else (2 : Int32))) else (1 : Int32))).1) = true)) : Ct l G (tyl cI cS cL) yX6_kick cX6_kick 3 (some (Jvm.ClassFile.FieldType.int)) 2 45 0 0 [.ref (q 0), .int (nI k), .int by_] [mdC q refusal isShot states length at_ good runs did, rwC (q 1) cI 129 now, rwC (q 4) cI 774 book].flatten (f_X6_kick states now book k by_) (fun u => some (.int u.1)) (fun u => [mdC q u.2.1 isShot u.2.2.1 length at_ good runs did, rwC (q 1) cI 129 u.2.2.2.1, rwC (q 4) cI 774 u.2.2.2.2].flatten) := by
  refine Ct.of (by decide +kernel) (Nat.le_of_ble_eq_true rfl) ?_
  intro p e s m args below meth c A ls hx hb hr hml hw hown hlocks hin hK hN hP hD hS hA hl
  have hown : s.vm.findClass RX6 = some m.cls := hown
  have X : Cx p s m args c cX6_kick 3 RX6 G (tyl cI cS cL) := ⟨hx, hb, hml, hown, hw, hK, hN⟩
  have hP : va_P G classes [mdC q refusal isShot states length at_ good runs did, rwC (q 1) cI 129 now, rwC (q 4) cI 774 book].flatten s.heap := hP
  have hl : lv_has ls 3 [(0, .ref (q 0)), (1, .int (nI k)), (2, .int by_)] := hl
  generalize hQQ : MQ below _ args s 0 0 A = QQ
  refine lv_aload_n hx hb dX6_kick_0 rfl (lv_at hl 0 rfl) ?_
  refine lv_iload_n hx hb dX6_kick_1 rfl (lv_at hl 1 rfl) ?_
  refine ct_callS (As := [.int (nI k)]) (rest := [.ref (q 0)]) X hP hD hS hA (k_X6_isClock l G cI cS cL  (nI k)) cq_X6_isClock aw_973 ⟨Nat.le_of_ble_eq_true rfl, Nat.le_of_ble_eq_true rfl⟩ ([] : List Nat) (cs := []) rfl (by decide) (cs' := []) rfl rfl rfl hl.1 rfl (Nat.le_of_ble_eq_true rfl) dX6_kick_2 ⟨Nat.zero_le _, Nat.zero_le _⟩ rfl (bs' := [mdC q refusal isShot states length at_ good runs did, rwC (q 1) cI 129 now, rwC (q 4) cI 774 book]) rfl (fun H locs hP hD hS => ?_)
  have hM_15 : ∀ (v_14 : Int32) (ls : Array Slot) (H : Heap) (locs : List Loc), v_14 = (if (f_X6_isClock (nI k)) = true then (if by_ = 0 then (2 : Int32) else (if (f_X6_in by_.toInt64 (-500 : Int64) (500 : Int64)) = true then (0 : Int32) else (2 : Int32))) else (1 : Int32)) → lv_has ls 3 [(0, .ref (q 0)), (1, .int (nI k)), (2, .int by_)] → va_P G classes [mdC q refusal isShot states length at_ good runs did, rwC (q 1) cI 129 now, rwC (q 4) cI 774 book].flatten H → va_D A [mdC q refusal isShot states length at_ good runs did, rwC (q 1) cI 129 now, rwC (q 4) cI 774 book].flatten → va_S A s.heap H locs → W p l e ({ frames := 2, cells := 0, slots := 0, locals := 45 } : Room) s m args below meth c H locs 0 0 QQ (F0 m 35 ls [.int v_14, .ref (q 0)]) := by
    intro v_14 ls H locs e_v_14 hl hP hD hS
    subst e_v_14
    refine ct_callV (As := [.int (if (f_X6_isClock (nI k)) = true then (if by_ = 0 then (2 : Int32) else (if (f_X6_in by_.toInt64 (-500 : Int64) (500 : Int64)) = true then (0 : Int32) else (2 : Int32))) else (1 : Int32))]) (rest := []) X hP hD hS hA (k_X6_refused l G cI cS cL q refusal isShot states length at_ good runs did (if (f_X6_isClock (nI k)) = true then (if by_ = 0 then (2 : Int32) else (if (f_X6_in by_.toInt64 (-500 : Int64) (500 : Int64)) = true then (0 : Int32) else (2 : Int32))) else (1 : Int32))) cp_X6_refused aw_929 ⟨Nat.le_of_ble_eq_true rfl, Nat.le_of_ble_eq_true rfl⟩ [0] (cs := [mdC q refusal isShot states length at_ good runs did]) rfl (by decide) (cs' := [mdC q ((f_X6_refused (if (f_X6_isClock (nI k)) = true then (if by_ = 0 then (2 : Int32) else (if (f_X6_in by_.toInt64 (-500 : Int64) (500 : Int64)) = true then (0 : Int32) else (2 : Int32))) else (1 : Int32))).2) isShot states length at_ good runs did]) rfl rfl 4 rfl rfl (q0 := 0) rfl rfl hl.1 rfl (Nat.le_of_ble_eq_true rfl) dX6_kick_35 ⟨Nat.zero_le _, Nat.zero_le _⟩ rfl (bs' := [mdC q ((f_X6_refused (if (f_X6_isClock (nI k)) = true then (if by_ = 0 then (2 : Int32) else (if (f_X6_in by_.toInt64 (-500 : Int64) (500 : Int64)) = true then (0 : Int32) else (2 : Int32))) else (1 : Int32))).2) isShot states length at_ good runs did, rwC (q 1) cI 129 now, rwC (q 4) cI 774 book]) rfl (fun H locs hP hD hS => ?_)
    refine bv_ifeq hx hb ((f_X6_refused (if (f_X6_isClock (nI k)) = true then (if by_ = 0 then (2 : Int32) else (if (f_X6_in by_.toInt64 (-500 : Int64) (500 : Int64)) = true then (0 : Int32) else (2 : Int32))) else (1 : Int32))).1) 43 dX6_kick_38 (by decide) (fun c_16 => ?_) (fun c => absurd c hrf)
    refine lv_aload_n hx hb dX6_kick_43 rfl (lv_at hl 0 rfl) ?_
    refine ct_callV (As := []) (rest := []) X hP hD hS hA (k_X6_save l G cI cS cL q ((f_X6_refused (if (f_X6_isClock (nI k)) = true then (if by_ = 0 then (2 : Int32) else (if (f_X6_in by_.toInt64 (-500 : Int64) (500 : Int64)) = true then (0 : Int32) else (2 : Int32))) else (1 : Int32))).2) isShot states length at_ good runs did now book hst) cp_X6_save aw_933 ⟨Nat.le_of_ble_eq_true rfl, Nat.le_of_ble_eq_true rfl⟩ [0, 1, 2] (cs := [mdC q ((f_X6_refused (if (f_X6_isClock (nI k)) = true then (if by_ = 0 then (2 : Int32) else (if (f_X6_in by_.toInt64 (-500 : Int64) (500 : Int64)) = true then (0 : Int32) else (2 : Int32))) else (1 : Int32))).2) isShot states length at_ good runs did, rwC (q 1) cI 129 now, rwC (q 4) cI 774 book]) rfl (by decide) (cs' := [mdC q ((f_X6_refused (if (f_X6_isClock (nI k)) = true then (if by_ = 0 then (2 : Int32) else (if (f_X6_in by_.toInt64 (-500 : Int64) (500 : Int64)) = true then (0 : Int32) else (2 : Int32))) else (1 : Int32))).2) isShot ((f_X6_save states now book).1) length at_ good runs did, rwC (q 1) cI 129 now, rwC (q 4) cI 774 ((f_X6_save states now book).2)]) rfl rfl 4 rfl rfl (q0 := 0) rfl rfl hl.1 rfl (Nat.le_of_ble_eq_true rfl) dX6_kick_44 ⟨Nat.zero_le _, Nat.zero_le _⟩ rfl (bs' := [mdC q ((f_X6_refused (if (f_X6_isClock (nI k)) = true then (if by_ = 0 then (2 : Int32) else (if (f_X6_in by_.toInt64 (-500 : Int64) (500 : Int64)) = true then (0 : Int32) else (2 : Int32))) else (1 : Int32))).2) isShot ((f_X6_save states now book).1) length at_ good runs did, rwC (q 1) cI 129 now, rwC (q 4) cI 774 ((f_X6_save states now book).2)]) rfl (fun H locs hP hD hS => ?_)
    refine lv_aload_n hx hb dX6_kick_47 rfl (lv_at hl 0 rfl) ?_
    refine lv_iload_n hx hb dX6_kick_48 rfl (lv_at hl 1 rfl) ?_
    refine lv_iload_n hx hb dX6_kick_49 rfl (lv_at hl 2 rfl) ?_
    refine ct_callV (As := [.int (nI k), .int by_]) (rest := []) X hP hD hS hA (k_X6_doKick l G cI cS cL q ((f_X6_refused (if (f_X6_isClock (nI k)) = true then (if by_ = 0 then (2 : Int32) else (if (f_X6_in by_.toInt64 (-500 : Int64) (500 : Int64)) = true then (0 : Int32) else (2 : Int32))) else (1 : Int32))).2) isShot ((f_X6_save states now book).1) length at_ good runs did now k by_ (by omega)) cp_X6_doKick aw_979 ⟨Nat.le_of_ble_eq_true rfl, Nat.le_of_ble_eq_true rfl⟩ [0, 1] (cs := [mdC q ((f_X6_refused (if (f_X6_isClock (nI k)) = true then (if by_ = 0 then (2 : Int32) else (if (f_X6_in by_.toInt64 (-500 : Int64) (500 : Int64)) = true then (0 : Int32) else (2 : Int32))) else (1 : Int32))).2) isShot ((f_X6_save states now book).1) length at_ good runs did, rwC (q 1) cI 129 now]) rfl (by decide) (cs' := [mdC q ((f_X6_refused (if (f_X6_isClock (nI k)) = true then (if by_ = 0 then (2 : Int32) else (if (f_X6_in by_.toInt64 (-500 : Int64) (500 : Int64)) = true then (0 : Int32) else (2 : Int32))) else (1 : Int32))).2) isShot ((f_X6_save states now book).1) length at_ good runs did, rwC (q 1) cI 129 ((f_X6_doKick now k by_).2)]) rfl rfl 4 rfl rfl (q0 := 0) rfl rfl hl.1 rfl (Nat.le_of_ble_eq_true rfl) dX6_kick_50 ⟨Nat.zero_le _, Nat.zero_le _⟩ rfl (bs' := [mdC q ((f_X6_refused (if (f_X6_isClock (nI k)) = true then (if by_ = 0 then (2 : Int32) else (if (f_X6_in by_.toInt64 (-500 : Int64) (500 : Int64)) = true then (0 : Int32) else (2 : Int32))) else (1 : Int32))).2) isShot ((f_X6_save states now book).1) length at_ good runs did, rwC (q 1) cI 129 ((f_X6_doKick now k by_).2), rwC (q 4) cI 774 ((f_X6_save states now book).2)]) rfl (fun H locs hP hD hS => ?_)
    rw [← hQQ]; exact W.iret hx hb hr (ct_end (F := (f_X6_kick states now book k by_)) (u := ((f_X6_doKick now k by_).1, (f_X6_refused (if (f_X6_isClock (nI k)) = true then (if by_ = 0 then (2 : Int32) else (if (f_X6_in by_.toInt64 (-500 : Int64) (500 : Int64)) = true then (0 : Int32) else (2 : Int32))) else (1 : Int32))).2, (f_X6_save states now book).1, (f_X6_doKick now k by_).2, (f_X6_save states now book).2)) (rf := (fun u => some (.int u.1))) (wf := (fun u => [mdC q u.2.1 isShot u.2.2.1 length at_ good runs did, rwC (q 1) cI 129 u.2.2.2.1, rwC (q 4) cI 774 u.2.2.2.2].flatten)) rfl rfl hP hD hS) hS.2.2 dX6_kick_53
  refine bv_ifne hx hb (f_X6_isClock (nI k)) 12 dX6_kick_5 (by decide) (fun c_1 => ?_) (fun c_1 => ?_)
  · refine lv_iload_n hx hb dX6_kick_12 rfl (lv_at hl 2 rfl) ?_
    have hM_11 : ∀ (v_10 : Int32) (ls : Array Slot) (H : Heap) (locs : List Loc), v_10 = (if by_ = 0 then (2 : Int32) else (if (f_X6_in by_.toInt64 (-500 : Int64) (500 : Int64)) = true then (0 : Int32) else (2 : Int32))) → lv_has ls 3 [(0, .ref (q 0)), (1, .int (nI k)), (2, .int by_)] → va_P G classes [mdC q refusal isShot states length at_ good runs did, rwC (q 1) cI 129 now, rwC (q 4) cI 774 book].flatten H → va_D A [mdC q refusal isShot states length at_ good runs did, rwC (q 1) cI 129 now, rwC (q 4) cI 774 book].flatten → va_S A s.heap H locs → W p l e ({ frames := 2, cells := 0, slots := 0, locals := 45 } : Room) s m args below meth c H locs 0 0 QQ (F0 m 35 ls [.int v_10, .ref (q 0)]) := by
      intro v_10 ls H locs e_v_10 hl hP hD hS
      subst e_v_10
      exact hM_15 (if by_ = 0 then (2 : Int32) else (if (f_X6_in by_.toInt64 (-500 : Int64) (500 : Int64)) = true then (0 : Int32) else (2 : Int32))) _ _ _ (if_pos c_1).symm (lv_sub hl [0, 1, 2] rfl) hP hD hS
    refine lv_if_eq (tgt := 30) hx hb dX6_kick_13 (by decide) (fun c_2 => ?_) (fun c_2 => ?_)
    · refine lv_iconst (v := 2) hx hb dX6_kick_30 (by decide) ?_
      refine lv_goto (tgt := 35) hx hb dX6_kick_31 (by decide) ?_
      exact hM_11 (2 : Int32) _ _ _ (if_pos c_2).symm (lv_sub hl [0, 1, 2] rfl) hP hD hS
    · refine lv_iload_n hx hb dX6_kick_16 rfl (lv_at hl 2 rfl) ?_
      refine lv_i2l hx hb dX6_kick_17 rfl ?_
      refine lv_ldc2 hx hb hown (hw _ aw_977) dX6_kick_18 ?_
      refine lv_ldc2 hx hb hown (hw _ aw_978) dX6_kick_21 ?_
      refine ct_callS (As := [.long by_.toInt64, .long (-500 : Int64), .long (500 : Int64)]) (rest := [.ref (q 0)]) X hP hD hS hA (k_X6_in l G cI cS cL  by_.toInt64 (-500 : Int64) (500 : Int64)) cq_X6_in aw_926 ⟨Nat.le_of_ble_eq_true rfl, Nat.le_of_ble_eq_true rfl⟩ ([] : List Nat) (cs := []) rfl (by decide) (cs' := []) rfl rfl rfl hl.1 rfl (Nat.le_of_ble_eq_true rfl) dX6_kick_24 ⟨Nat.zero_le _, Nat.zero_le _⟩ rfl (bs' := [mdC q refusal isShot states length at_ good runs did, rwC (q 1) cI 129 now, rwC (q 4) cI 774 book]) rfl (fun H locs hP hD hS => ?_)
      have hM_8 : ∀ (v_7 : Int32) (ls : Array Slot) (H : Heap) (locs : List Loc), v_7 = (if (f_X6_in by_.toInt64 (-500 : Int64) (500 : Int64)) = true then (0 : Int32) else (2 : Int32)) → lv_has ls 3 [(0, .ref (q 0)), (1, .int (nI k)), (2, .int by_)] → va_P G classes [mdC q refusal isShot states length at_ good runs did, rwC (q 1) cI 129 now, rwC (q 4) cI 774 book].flatten H → va_D A [mdC q refusal isShot states length at_ good runs did, rwC (q 1) cI 129 now, rwC (q 4) cI 774 book].flatten → va_S A s.heap H locs → W p l e ({ frames := 2, cells := 0, slots := 0, locals := 45 } : Room) s m args below meth c H locs 0 0 QQ (F0 m 35 ls [.int v_7, .ref (q 0)]) := by
        intro v_7 ls H locs e_v_7 hl hP hD hS
        subst e_v_7
        exact hM_11 (if (f_X6_in by_.toInt64 (-500 : Int64) (500 : Int64)) = true then (0 : Int32) else (2 : Int32)) _ _ _ (if_neg c_2).symm (lv_sub hl [0, 1, 2] rfl) hP hD hS
      refine bv_ifne hx hb (f_X6_in by_.toInt64 (-500 : Int64) (500 : Int64)) 34 dX6_kick_27 (by decide) (fun c_4 => ?_) (fun c_4 => ?_)
      · refine lv_iconst (v := 0) hx hb dX6_kick_34 (by decide) ?_
        exact hM_8 (0 : Int32) _ _ _ (if_pos c_4).symm (lv_sub hl [0, 1, 2] rfl) hP hD hS
      · refine lv_iconst (v := 2) hx hb dX6_kick_30 (by decide) ?_
        refine lv_goto (tgt := 35) hx hb dX6_kick_31 (by decide) ?_
        exact hM_8 (2 : Int32) _ _ _ (if_neg c_4).symm (lv_sub hl [0, 1, 2] rfl) hP hD hS
  · refine lv_iconst (v := 1) hx hb dX6_kick_8 (by decide) ?_
    refine lv_goto (tgt := 35) hx hb dX6_kick_9 (by decide) ?_
    exact hM_15 (1 : Int32) _ _ _ (if_neg c_1).symm (lv_sub hl [0, 1, 2] rfl) hP hD hS
set_option maxRecDepth 100000 in
set_option maxHeartbeats 4000000 in
theorem k_X6_kick_R (l : Launch) (G : va_G) (cI cS cL : ClassId) (q : Nat → Nat) (refusal : Int32) (isShot : Bool) (states : Nat) (length : Nat) (at_ : Nat) (good : Bool) (runs : Bool) (did : Int32) (now : Nat → Int32) (book : Nat → Int32) (k : Int32) (by_ : Int32) (hrf : ((f_X6_refused (if (f_X6_isClock k) = true then (if by_ = 0 then (2 : Int32) else (if (f_X6_in by_.toInt64 (-500 : Int64) (500 : Int64)) = true then (0 : Int32) else (2 : Int32))) else (1 : Int32))).1) = true) : Ct l G (tyl cI cS cL) yX6_kick cX6_kick 3 (some (Jvm.ClassFile.FieldType.int)) 2 45 0 0 [.ref (q 0), .int k, .int by_] [mdC q refusal isShot states length at_ good runs did, rwC (q 1) cI 129 now, rwC (q 4) cI 774 book].flatten (f_X6_kick_R k by_) (fun u => some (.int u.1)) (fun u => [mdC q u.2 isShot states length at_ good runs did, rwC (q 1) cI 129 now, rwC (q 4) cI 774 book].flatten) := by
  refine Ct.of (by decide +kernel) (Nat.le_of_ble_eq_true rfl) ?_
  intro p e s m args below meth c A ls hx hb hr hml hw hown hlocks hin hK hN hP hD hS hA hl
  have hown : s.vm.findClass RX6 = some m.cls := hown
  have X : Cx p s m args c cX6_kick 3 RX6 G (tyl cI cS cL) := ⟨hx, hb, hml, hown, hw, hK, hN⟩
  have hP : va_P G classes [mdC q refusal isShot states length at_ good runs did, rwC (q 1) cI 129 now, rwC (q 4) cI 774 book].flatten s.heap := hP
  have hl : lv_has ls 3 [(0, .ref (q 0)), (1, .int k), (2, .int by_)] := hl
  generalize hQQ : MQ below _ args s 0 0 A = QQ
  refine lv_aload_n hx hb dX6_kick_0 rfl (lv_at hl 0 rfl) ?_
  refine lv_iload_n hx hb dX6_kick_1 rfl (lv_at hl 1 rfl) ?_
  refine ct_callS (As := [.int k]) (rest := [.ref (q 0)]) X hP hD hS hA (k_X6_isClock l G cI cS cL  k) cq_X6_isClock aw_973 ⟨Nat.le_of_ble_eq_true rfl, Nat.le_of_ble_eq_true rfl⟩ ([] : List Nat) (cs := []) rfl (by decide) (cs' := []) rfl rfl rfl hl.1 rfl (Nat.le_of_ble_eq_true rfl) dX6_kick_2 ⟨Nat.zero_le _, Nat.zero_le _⟩ rfl (bs' := [mdC q refusal isShot states length at_ good runs did, rwC (q 1) cI 129 now, rwC (q 4) cI 774 book]) rfl (fun H locs hP hD hS => ?_)
  have hM_15 : ∀ (v_14 : Int32) (ls : Array Slot) (H : Heap) (locs : List Loc), v_14 = (if (f_X6_isClock k) = true then (if by_ = 0 then (2 : Int32) else (if (f_X6_in by_.toInt64 (-500 : Int64) (500 : Int64)) = true then (0 : Int32) else (2 : Int32))) else (1 : Int32)) → lv_has ls 3 [(0, .ref (q 0)), (1, .int k), (2, .int by_)] → va_P G classes [mdC q refusal isShot states length at_ good runs did, rwC (q 1) cI 129 now, rwC (q 4) cI 774 book].flatten H → va_D A [mdC q refusal isShot states length at_ good runs did, rwC (q 1) cI 129 now, rwC (q 4) cI 774 book].flatten → va_S A s.heap H locs → W p l e ({ frames := 2, cells := 0, slots := 0, locals := 45 } : Room) s m args below meth c H locs 0 0 QQ (F0 m 35 ls [.int v_14, .ref (q 0)]) := by
    intro v_14 ls H locs e_v_14 hl hP hD hS
    subst e_v_14
    refine ct_callV (As := [.int (if (f_X6_isClock k) = true then (if by_ = 0 then (2 : Int32) else (if (f_X6_in by_.toInt64 (-500 : Int64) (500 : Int64)) = true then (0 : Int32) else (2 : Int32))) else (1 : Int32))]) (rest := []) X hP hD hS hA (k_X6_refused l G cI cS cL q refusal isShot states length at_ good runs did (if (f_X6_isClock k) = true then (if by_ = 0 then (2 : Int32) else (if (f_X6_in by_.toInt64 (-500 : Int64) (500 : Int64)) = true then (0 : Int32) else (2 : Int32))) else (1 : Int32))) cp_X6_refused aw_929 ⟨Nat.le_of_ble_eq_true rfl, Nat.le_of_ble_eq_true rfl⟩ [0] (cs := [mdC q refusal isShot states length at_ good runs did]) rfl (by decide) (cs' := [mdC q ((f_X6_refused (if (f_X6_isClock k) = true then (if by_ = 0 then (2 : Int32) else (if (f_X6_in by_.toInt64 (-500 : Int64) (500 : Int64)) = true then (0 : Int32) else (2 : Int32))) else (1 : Int32))).2) isShot states length at_ good runs did]) rfl rfl 4 rfl rfl (q0 := 0) rfl rfl hl.1 rfl (Nat.le_of_ble_eq_true rfl) dX6_kick_35 ⟨Nat.zero_le _, Nat.zero_le _⟩ rfl (bs' := [mdC q ((f_X6_refused (if (f_X6_isClock k) = true then (if by_ = 0 then (2 : Int32) else (if (f_X6_in by_.toInt64 (-500 : Int64) (500 : Int64)) = true then (0 : Int32) else (2 : Int32))) else (1 : Int32))).2) isShot states length at_ good runs did, rwC (q 1) cI 129 now, rwC (q 4) cI 774 book]) rfl (fun H locs hP hD hS => ?_)
    refine bv_ifeq hx hb ((f_X6_refused (if (f_X6_isClock k) = true then (if by_ = 0 then (2 : Int32) else (if (f_X6_in by_.toInt64 (-500 : Int64) (500 : Int64)) = true then (0 : Int32) else (2 : Int32))) else (1 : Int32))).1) 43 dX6_kick_38 (by decide) (fun c => absurd hrf c) (fun c_16 => ?_)
    refine lv_iconst (v := 0) hx hb dX6_kick_41 (by decide) ?_
    rw [← hQQ]; exact W.iret hx hb hr (ct_end (F := (f_X6_kick_R k by_)) (u := ((0 : Int32), (f_X6_refused (if (f_X6_isClock k) = true then (if by_ = 0 then (2 : Int32) else (if (f_X6_in by_.toInt64 (-500 : Int64) (500 : Int64)) = true then (0 : Int32) else (2 : Int32))) else (1 : Int32))).2)) (rf := (fun u => some (.int u.1))) (wf := (fun u => [mdC q u.2 isShot states length at_ good runs did, rwC (q 1) cI 129 now, rwC (q 4) cI 774 book].flatten)) rfl rfl hP hD hS) hS.2.2 dX6_kick_42
  refine bv_ifne hx hb (f_X6_isClock k) 12 dX6_kick_5 (by decide) (fun c_1 => ?_) (fun c_1 => ?_)
  · refine lv_iload_n hx hb dX6_kick_12 rfl (lv_at hl 2 rfl) ?_
    have hM_11 : ∀ (v_10 : Int32) (ls : Array Slot) (H : Heap) (locs : List Loc), v_10 = (if by_ = 0 then (2 : Int32) else (if (f_X6_in by_.toInt64 (-500 : Int64) (500 : Int64)) = true then (0 : Int32) else (2 : Int32))) → lv_has ls 3 [(0, .ref (q 0)), (1, .int k), (2, .int by_)] → va_P G classes [mdC q refusal isShot states length at_ good runs did, rwC (q 1) cI 129 now, rwC (q 4) cI 774 book].flatten H → va_D A [mdC q refusal isShot states length at_ good runs did, rwC (q 1) cI 129 now, rwC (q 4) cI 774 book].flatten → va_S A s.heap H locs → W p l e ({ frames := 2, cells := 0, slots := 0, locals := 45 } : Room) s m args below meth c H locs 0 0 QQ (F0 m 35 ls [.int v_10, .ref (q 0)]) := by
      intro v_10 ls H locs e_v_10 hl hP hD hS
      subst e_v_10
      exact hM_15 (if by_ = 0 then (2 : Int32) else (if (f_X6_in by_.toInt64 (-500 : Int64) (500 : Int64)) = true then (0 : Int32) else (2 : Int32))) _ _ _ (if_pos c_1).symm (lv_sub hl [0, 1, 2] rfl) hP hD hS
    refine lv_if_eq (tgt := 30) hx hb dX6_kick_13 (by decide) (fun c_2 => ?_) (fun c_2 => ?_)
    · refine lv_iconst (v := 2) hx hb dX6_kick_30 (by decide) ?_
      refine lv_goto (tgt := 35) hx hb dX6_kick_31 (by decide) ?_
      exact hM_11 (2 : Int32) _ _ _ (if_pos c_2).symm (lv_sub hl [0, 1, 2] rfl) hP hD hS
    · refine lv_iload_n hx hb dX6_kick_16 rfl (lv_at hl 2 rfl) ?_
      refine lv_i2l hx hb dX6_kick_17 rfl ?_
      refine lv_ldc2 hx hb hown (hw _ aw_977) dX6_kick_18 ?_
      refine lv_ldc2 hx hb hown (hw _ aw_978) dX6_kick_21 ?_
      refine ct_callS (As := [.long by_.toInt64, .long (-500 : Int64), .long (500 : Int64)]) (rest := [.ref (q 0)]) X hP hD hS hA (k_X6_in l G cI cS cL  by_.toInt64 (-500 : Int64) (500 : Int64)) cq_X6_in aw_926 ⟨Nat.le_of_ble_eq_true rfl, Nat.le_of_ble_eq_true rfl⟩ ([] : List Nat) (cs := []) rfl (by decide) (cs' := []) rfl rfl rfl hl.1 rfl (Nat.le_of_ble_eq_true rfl) dX6_kick_24 ⟨Nat.zero_le _, Nat.zero_le _⟩ rfl (bs' := [mdC q refusal isShot states length at_ good runs did, rwC (q 1) cI 129 now, rwC (q 4) cI 774 book]) rfl (fun H locs hP hD hS => ?_)
      have hM_8 : ∀ (v_7 : Int32) (ls : Array Slot) (H : Heap) (locs : List Loc), v_7 = (if (f_X6_in by_.toInt64 (-500 : Int64) (500 : Int64)) = true then (0 : Int32) else (2 : Int32)) → lv_has ls 3 [(0, .ref (q 0)), (1, .int k), (2, .int by_)] → va_P G classes [mdC q refusal isShot states length at_ good runs did, rwC (q 1) cI 129 now, rwC (q 4) cI 774 book].flatten H → va_D A [mdC q refusal isShot states length at_ good runs did, rwC (q 1) cI 129 now, rwC (q 4) cI 774 book].flatten → va_S A s.heap H locs → W p l e ({ frames := 2, cells := 0, slots := 0, locals := 45 } : Room) s m args below meth c H locs 0 0 QQ (F0 m 35 ls [.int v_7, .ref (q 0)]) := by
        intro v_7 ls H locs e_v_7 hl hP hD hS
        subst e_v_7
        exact hM_11 (if (f_X6_in by_.toInt64 (-500 : Int64) (500 : Int64)) = true then (0 : Int32) else (2 : Int32)) _ _ _ (if_neg c_2).symm (lv_sub hl [0, 1, 2] rfl) hP hD hS
      refine bv_ifne hx hb (f_X6_in by_.toInt64 (-500 : Int64) (500 : Int64)) 34 dX6_kick_27 (by decide) (fun c_4 => ?_) (fun c_4 => ?_)
      · refine lv_iconst (v := 0) hx hb dX6_kick_34 (by decide) ?_
        exact hM_8 (0 : Int32) _ _ _ (if_pos c_4).symm (lv_sub hl [0, 1, 2] rfl) hP hD hS
      · refine lv_iconst (v := 2) hx hb dX6_kick_30 (by decide) ?_
        refine lv_goto (tgt := 35) hx hb dX6_kick_31 (by decide) ?_
        exact hM_8 (2 : Int32) _ _ _ (if_neg c_4).symm (lv_sub hl [0, 1, 2] rfl) hP hD hS
  · refine lv_iconst (v := 1) hx hb dX6_kick_8 (by decide) ?_
    refine lv_goto (tgt := 35) hx hb dX6_kick_9 (by decide) ?_
    exact hM_15 (1 : Int32) _ _ _ (if_neg c_1).symm (lv_sub hl [0, 1, 2] rfl) hP hD hS
set_option maxRecDepth 100000 in
set_option maxHeartbeats 4000000 in
theorem k_X6_doMove (l : Launch) (G : va_G) (cI cS cL : ClassId) (q : Nat → Nat) (refusal : Int32) (isShot : Bool) (states : Nat) (length : Nat) (at_ : Nat) (good : Bool) (runs : Bool) (did : Int32) (now : Nat → Int32) (k : Nat) (b : Int32) (hk : k < 8) : Ct l G (tyl cI cS cL) yX6_doMove cX6_doMove 5 (some (Jvm.ClassFile.FieldType.int)) 2 41 0 0 [.ref (q 0), .int (nI k), .int b] [mdC q refusal isShot states length at_ good runs did, rwC (q 1) cI 129 now].flatten (f_X6_doMove now k b) (fun u => some (.int u.1)) (fun u => [mdC q refusal isShot states length at_ good runs did, rwC (q 1) cI 129 u.2].flatten) := by
  refine Ct.of (by decide +kernel) (Nat.le_of_ble_eq_true rfl) ?_
  intro p e s m args below meth c A ls hx hb hr hml hw hown hlocks hin hK hN hP hD hS hA hl
  have hown : s.vm.findClass RX6 = some m.cls := hown
  have X : Cx p s m args c cX6_doMove 5 RX6 G (tyl cI cS cL) := ⟨hx, hb, hml, hown, hw, hK, hN⟩
  have hP : va_P G classes [mdC q refusal isShot states length at_ good runs did, rwC (q 1) cI 129 now].flatten s.heap := hP
  have hl : lv_has ls 5 [(0, .ref (q 0)), (1, .int (nI k)), (2, .int b)] := hl
  generalize hQQ : MQ below _ args s 0 0 A = QQ
  refine lv_iconst (v := 0) hx hb dX6_doMove_0 (by decide) ?_
  refine lv_istore_n (lv' := [(3, .int (0 : Int32)), (0, .ref (q 0)), (1, .int (nI k)), (2, .int b)]) hx hb dX6_doMove_1 rfl hl (by decide) rfl (fun ls hl => ?_)
  refine lv_aload_n hx hb dX6_doMove_2 rfl (lv_at hl 1 rfl) ?_
  refine va_get (D := G) (ci := 4) (C := RX6) (T := TX6) (N := 15) hx hb hw in_X6 hown hK hP 0 rfl rfl 1 (by decide) (hw _ aw_872) (fun _ h9 => h9) rfl dX6_doMove_3 ?_
  refine lv_iload_n hx hb dX6_doMove_6 rfl (lv_at hl 2 rfl) ?_
  refine ct_callS (As := [.int (nI k)]) (rest := [.ref (q 1)]) X hP hD hS hA (k_X6_spot l G cI cS cL  k) cq_X6_spot aw_951 ⟨Nat.le_of_ble_eq_true rfl, Nat.le_of_ble_eq_true rfl⟩ ([] : List Nat) (cs := []) rfl (by decide) (cs' := []) rfl rfl rfl hl.1 rfl (Nat.le_of_ble_eq_true rfl) dX6_doMove_7 ⟨Nat.zero_le _, Nat.zero_le _⟩ rfl (bs' := [mdC q refusal isShot states length at_ good runs did, rwC (q 1) cI 129 now]) rfl (fun H locs hP hD hS => ?_)
  refine lv_iconst (v := 0) hx hb dX6_doMove_10 (by decide) ?_
  refine nv_iadd hx hb (6 + (7 * k)) 0 dX6_doMove_11 ?_
  refine lv_iload_n hx hb dX6_doMove_12 rfl (lv_at hl 3 rfl) ?_
  refine nv_iast hx hb hK hP hD hS 1 0 rfl rfl ((6 + (7 * k)) + 0) (by first | omega | exact near_lt (by omega) (by omega)) (by decide) dX6_doMove_13 (ws' := [mdC q refusal isShot states length at_ good runs did, rwC (q 1) cI 129 (upd now ((6 + (7 * k)) + 0) b)].flatten) rfl (fun H locs hP hD hS => ?_)
  refine lv_iconst (v := 0) hx hb dX6_doMove_14 (by decide) ?_
  refine lv_istore (lv' := [(4, .int (0 : Int32)), (3, .int (0 : Int32)), (0, .ref (q 0)), (1, .int (nI k)), (2, .int b)]) hx hb dX6_doMove_15 hl (by decide) rfl (fun ls hl => ?_)
  refine it_loop (f := (L_X6_doMove_17 k b)) 8 (fun (i17 : Nat) (s17 : Int32 × (Nat → Int32)) => ∀ (ls : Array Slot) (H : Heap) (locs : List Loc), lv_has ls 5 [(4, .int (nI i17)), (3, .int s17.1), (0, .ref (q 0)), (1, .int (nI k)), (2, .int b)] → va_P G classes [mdC q refusal isShot states length at_ good runs did, rwC (q 1) cI 129 s17.2].flatten H → va_D A [mdC q refusal isShot states length at_ good runs did, rwC (q 1) cI 129 s17.2].flatten → va_S A s.heap H locs → W p l e ({ frames := 2, cells := 0, slots := 0, locals := 41 } : Room) s m args below meth c H locs 0 0 QQ (F0 m 17 ls [])) (fun i17 s17 hi17 ih => ?_) 8 0 ((0 : Int32), (upd now ((6 + (7 * k)) + 0) b)) (by omega) ?_ ls _ _ (lv_sub hl [0, 1, 2, 3, 4] rfl) hP hD hS
  · intro ls H locs hl hP hD hS
    refine lv_iload hx hb dX6_doMove_17 (lv_at hl 0 rfl) ?_
    refine lv_bipush (v := 8) hx hb dX6_doMove_19 (by decide) ?_
    refine nv_ge hx hb i17 8 69 (by omega) (by omega) dX6_doMove_21 (by decide) (fun hc => absurd hc (by omega)) (fun _ => ?_)
    refine lv_iload hx hb dX6_doMove_24 (lv_at hl 0 rfl) ?_
    refine lv_iload_n hx hb dX6_doMove_26 rfl (lv_at hl 3 rfl) ?_
    have hM_13 : ∀ (v_11 : Int32) (v_12 : Nat → Int32) (ls : Array Slot) (H : Heap) (locs : List Loc), v_11 = (if i17 = k then s17.1 else (s17.1 + (bI (if (f_X6_beamOf (upd s17.2 (f_X6_near k i17) (0 : Int32)) i17) = b then true else false)))) → v_12 = (if i17 = k then s17.2 else (upd s17.2 (f_X6_near k i17) (0 : Int32))) → lv_has ls 5 [(4, .int (nI i17)), (3, .int v_11), (0, .ref (q 0)), (1, .int (nI k)), (2, .int b)] → va_P G classes [mdC q refusal isShot states length at_ good runs did, rwC (q 1) cI 129 v_12].flatten H → va_D A [mdC q refusal isShot states length at_ good runs did, rwC (q 1) cI 129 v_12].flatten → va_S A s.heap H locs → W p l e ({ frames := 2, cells := 0, slots := 0, locals := 41 } : Room) s m args below meth c H locs 0 0 QQ (F0 m 63 ls []) := by
      intro v_11 v_12 ls H locs e_v_11 e_v_12 hl hP hD hS
      subst e_v_11 e_v_12
      refine nv_iinc (k := 0) (lv' := [(4, .int (nI (i17 + 1))), (3, .int (if i17 = k then s17.1 else (s17.1 + (bI (if (f_X6_beamOf (upd s17.2 (f_X6_near k i17) (0 : Int32)) i17) = b then true else false))))), (0, .ref (q 0)), (1, .int (nI k)), (2, .int b)]) hx hb i17 dX6_doMove_63 hl rfl (by decide) rfl (fun ls hl => ?_)
      refine lv_goto (tgt := 17) hx hb dX6_doMove_66 (by decide) ?_
      exact ih _ _ _ (lv_sub hl [0, 1, 2, 3, 4] rfl) hP hD hS
    refine nv_eq hx hb i17 k 63 (by omega) (by omega) dX6_doMove_27 (by decide) (fun c_3 => ?_) (fun c_3 => ?_)
    · exact hM_13 s17.1 s17.2 _ _ _ (if_pos c_3).symm (if_pos c_3).symm (lv_sub hl [0, 1, 2, 3, 4] rfl) hP hD hS
    · refine lv_aload_n hx hb dX6_doMove_30 rfl (lv_at hl 2 rfl) ?_
      refine va_get (D := G) (ci := 4) (C := RX6) (T := TX6) (N := 15) hx hb hw in_X6 hown hK hP 0 rfl rfl 1 (by decide) (hw _ aw_872) (fun _ h9 => h9) rfl dX6_doMove_31 ?_
      refine lv_iload_n hx hb dX6_doMove_34 rfl (lv_at hl 3 rfl) ?_
      refine lv_iload hx hb dX6_doMove_35 (lv_at hl 0 rfl) ?_
      refine ct_callS (As := [.int (nI k), .int (nI i17)]) (rest := [.ref (q 1)]) X hP hD hS hA (k_X6_near l G cI cS cL  k i17 (by omega) (by omega)) cq_X6_near aw_960 ⟨Nat.le_of_ble_eq_true rfl, Nat.le_of_ble_eq_true rfl⟩ ([] : List Nat) (cs := []) rfl (by decide) (cs' := []) rfl rfl rfl hl.1 rfl (Nat.le_of_ble_eq_true rfl) dX6_doMove_37 ⟨Nat.zero_le _, Nat.zero_le _⟩ rfl (bs' := [mdC q refusal isShot states length at_ good runs did, rwC (q 1) cI 129 s17.2]) rfl (fun H locs hP hD hS => ?_)
      refine lv_iconst (v := 0) hx hb dX6_doMove_40 (by decide) ?_
      refine nv_iast hx hb hK hP hD hS 1 0 rfl rfl (f_X6_near k i17) (by first | omega | exact near_lt (by omega) (by omega)) (by decide) dX6_doMove_41 (ws' := [mdC q refusal isShot states length at_ good runs did, rwC (q 1) cI 129 (upd s17.2 (f_X6_near k i17) (0 : Int32))].flatten) rfl (fun H locs hP hD hS => ?_)
      refine lv_iload_n hx hb dX6_doMove_42 rfl (lv_at hl 1 rfl) ?_
      refine lv_aload_n hx hb dX6_doMove_43 rfl (lv_at hl 2 rfl) ?_
      refine va_get (D := G) (ci := 4) (C := RX6) (T := TX6) (N := 15) hx hb hw in_X6 hown hK hP 0 rfl rfl 1 (by decide) (hw _ aw_872) (fun _ h9 => h9) rfl dX6_doMove_44 ?_
      refine lv_iload hx hb dX6_doMove_47 (lv_at hl 0 rfl) ?_
      refine ct_callS (As := [.ref (q 1), .int (nI i17)]) (rest := [.int s17.1]) X hP hD hS hA (k_X6_beamOf l G cI cS cL (q 1) (upd s17.2 (f_X6_near k i17) (0 : Int32)) i17 (by omega)) cq_X6_beamOf aw_954 ⟨Nat.le_of_ble_eq_true rfl, Nat.le_of_ble_eq_true rfl⟩ [1] (cs := [rwC (q 1) cI 129 (upd s17.2 (f_X6_near k i17) (0 : Int32))]) rfl (by decide) (cs' := [rwC (q 1) cI 129 (upd s17.2 (f_X6_near k i17) (0 : Int32))]) rfl rfl rfl hl.1 rfl (Nat.le_of_ble_eq_true rfl) dX6_doMove_49 ⟨Nat.zero_le _, Nat.zero_le _⟩ rfl (bs' := [mdC q refusal isShot states length at_ good runs did, rwC (q 1) cI 129 (upd s17.2 (f_X6_near k i17) (0 : Int32))]) rfl (fun H locs hP hD hS => ?_)
      refine lv_iload_n hx hb dX6_doMove_52 rfl (lv_at hl 4 rfl) ?_
      have hM_9 : ∀ (v_8 : Bool) (ls : Array Slot) (H : Heap) (locs : List Loc), v_8 = (if (f_X6_beamOf (upd s17.2 (f_X6_near k i17) (0 : Int32)) i17) = b then true else false) → lv_has ls 5 [(4, .int (nI i17)), (0, .ref (q 0)), (1, .int (nI k)), (2, .int b)] → va_P G classes [mdC q refusal isShot states length at_ good runs did, rwC (q 1) cI 129 (upd s17.2 (f_X6_near k i17) (0 : Int32))].flatten H → va_D A [mdC q refusal isShot states length at_ good runs did, rwC (q 1) cI 129 (upd s17.2 (f_X6_near k i17) (0 : Int32))].flatten → va_S A s.heap H locs → W p l e ({ frames := 2, cells := 0, slots := 0, locals := 41 } : Room) s m args below meth c H locs 0 0 QQ (F0 m 61 ls [.int (bI v_8), .int s17.1]) := by
        intro v_8 ls H locs e_v_8 hl hP hD hS
        subst e_v_8
        refine lv_iadd hx hb dX6_doMove_61 ?_
        refine lv_istore_n (lv' := [(3, .int (s17.1 + (bI (if (f_X6_beamOf (upd s17.2 (f_X6_near k i17) (0 : Int32)) i17) = b then true else false)))), (4, .int (nI i17)), (0, .ref (q 0)), (1, .int (nI k)), (2, .int b)]) hx hb dX6_doMove_62 rfl hl (by decide) rfl (fun ls hl => ?_)
        exact hM_13 (s17.1 + (bI (if (f_X6_beamOf (upd s17.2 (f_X6_near k i17) (0 : Int32)) i17) = b then true else false))) (upd s17.2 (f_X6_near k i17) (0 : Int32)) _ _ _ (if_neg c_3).symm (if_neg c_3).symm (lv_sub hl [1, 0, 2, 3, 4] rfl) hP hD hS
      refine iv_ne hx hb 60 dX6_doMove_53 (by decide) (fun c_5 => ?_) (fun c_5 => ?_)
      · refine lv_iconst (v := 0) hx hb dX6_doMove_60 (by decide) ?_
        exact hM_9 false _ _ _ (if_neg c_5).symm (lv_sub hl [0, 2, 3, 4] rfl) hP hD hS
      · refine lv_iconst (v := 1) hx hb dX6_doMove_56 (by decide) ?_
        refine lv_goto (tgt := 61) hx hb dX6_doMove_57 (by decide) ?_
        exact hM_9 true _ _ _ (if_pos c_5).symm (lv_sub hl [0, 2, 3, 4] rfl) hP hD hS
  · intro ls H locs hl hP hD hS
    refine lv_iload hx hb dX6_doMove_17 (lv_at hl 0 rfl) ?_
    refine lv_bipush (v := 8) hx hb dX6_doMove_19 (by decide) ?_
    refine nv_ge hx hb 8 8 69 (by omega) (by omega) dX6_doMove_21 (by decide) (fun _ => ?_) (fun hc => absurd hc (by omega))
    refine lv_iload_n hx hb dX6_doMove_69 rfl (lv_at hl 1 rfl) ?_
    rw [← hQQ]; exact W.iret hx hb hr (ct_end (F := (f_X6_doMove now k b)) (u := (it (L_X6_doMove_17 k b) 0 8 ((0 : Int32), (upd now ((6 + (7 * k)) + 0) b)))) (rf := (fun u => some (.int u.1))) (wf := (fun u => [mdC q refusal isShot states length at_ good runs did, rwC (q 1) cI 129 u.2].flatten)) rfl rfl hP hD hS) hS.2.2 dX6_doMove_70
set_option maxRecDepth 100000 in
set_option maxHeartbeats 4000000 in
theorem k_X6_doWind (l : Launch) (G : va_G) (cI cS cL : ClassId) (q : Nat → Nat) (refusal : Int32) (isShot : Bool) (states : Nat) (length : Nat) (at_ : Nat) (good : Bool) (runs : Bool) (did : Int32) (now : Nat → Int32) (k : Nat) (hk : k < 8) : Ct l G (tyl cI cS cL) yX6_doWind cX6_doWind 3 (some (Jvm.ClassFile.FieldType.int)) 1 20 0 0 [.ref (q 0), .int (nI k)] [mdC q refusal isShot states length at_ good runs did, rwC (q 1) cI 129 now].flatten (f_X6_doWind now k) (fun u => some (.int u.1)) (fun u => [mdC q refusal isShot states length at_ good runs did, rwC (q 1) cI 129 u.2].flatten) := by
  refine Ct.of (by decide +kernel) (Nat.le_of_ble_eq_true rfl) ?_
  intro p e s m args below meth c A ls hx hb hr hml hw hown hlocks hin hK hN hP hD hS hA hl
  have hown : s.vm.findClass RX6 = some m.cls := hown
  have X : Cx p s m args c cX6_doWind 3 RX6 G (tyl cI cS cL) := ⟨hx, hb, hml, hown, hw, hK, hN⟩
  have hP : va_P G classes [mdC q refusal isShot states length at_ good runs did, rwC (q 1) cI 129 now].flatten s.heap := hP
  have hl : lv_has ls 3 [(0, .ref (q 0)), (1, .int (nI k))] := hl
  generalize hQQ : MQ below _ args s 0 0 A = QQ
  refine lv_bipush (v := 99) hx hb dX6_doWind_0 (by decide) ?_
  refine lv_aload_n hx hb dX6_doWind_2 rfl (lv_at hl 0 rfl) ?_
  refine va_get (D := G) (ci := 4) (C := RX6) (T := TX6) (N := 15) hx hb hw in_X6 hown hK hP 0 rfl rfl 1 (by decide) (hw _ aw_872) (fun _ h9 => h9) rfl dX6_doWind_3 ?_
  refine lv_iload_n hx hb dX6_doWind_6 rfl (lv_at hl 1 rfl) ?_
  refine ct_callS (As := [.int (nI k)]) (rest := [.ref (q 1), .int (99 : Int32)]) X hP hD hS hA (k_X6_spot l G cI cS cL  k) cq_X6_spot aw_951 ⟨Nat.le_of_ble_eq_true rfl, Nat.le_of_ble_eq_true rfl⟩ ([] : List Nat) (cs := []) rfl (by decide) (cs' := []) rfl rfl rfl hl.1 rfl (Nat.le_of_ble_eq_true rfl) dX6_doWind_7 ⟨Nat.zero_le _, Nat.zero_le _⟩ rfl (bs' := [mdC q refusal isShot states length at_ good runs did, rwC (q 1) cI 129 now]) rfl (fun H locs hP hD hS => ?_)
  refine lv_iconst (v := 3) hx hb dX6_doWind_10 (by decide) ?_
  refine nv_iadd hx hb (6 + (7 * k)) 3 dX6_doWind_11 ?_
  refine nv_iald hx hb hK hP 1 0 rfl rfl ((6 + (7 * k)) + 3) (by omega) (by decide) dX6_doWind_12 ?_
  refine lv_isub hx hb dX6_doWind_13 ?_
  refine lv_istore_n (lv' := [(2, .int ((99 : Int32) - (now ((6 + (7 * k)) + 3)))), (0, .ref (q 0)), (1, .int (nI k))]) hx hb dX6_doWind_14 rfl hl (by decide) rfl (fun ls hl => ?_)
  refine lv_aload_n hx hb dX6_doWind_15 rfl (lv_at hl 1 rfl) ?_
  refine va_get (D := G) (ci := 4) (C := RX6) (T := TX6) (N := 15) hx hb hw in_X6 hown hK hP 0 rfl rfl 1 (by decide) (hw _ aw_872) (fun _ h9 => h9) rfl dX6_doWind_16 ?_
  refine lv_iload_n hx hb dX6_doWind_19 rfl (lv_at hl 2 rfl) ?_
  refine ct_callS (As := [.int (nI k)]) (rest := [.ref (q 1)]) X hP hD hS hA (k_X6_spot l G cI cS cL  k) cq_X6_spot aw_951 ⟨Nat.le_of_ble_eq_true rfl, Nat.le_of_ble_eq_true rfl⟩ ([] : List Nat) (cs := []) rfl (by decide) (cs' := []) rfl rfl rfl hl.1 rfl (Nat.le_of_ble_eq_true rfl) dX6_doWind_20 ⟨Nat.zero_le _, Nat.zero_le _⟩ rfl (bs' := [mdC q refusal isShot states length at_ good runs did, rwC (q 1) cI 129 now]) rfl (fun H locs hP hD hS => ?_)
  refine lv_iconst (v := 3) hx hb dX6_doWind_23 (by decide) ?_
  refine nv_iadd hx hb (6 + (7 * k)) 3 dX6_doWind_24 ?_
  refine lv_bipush (v := 99) hx hb dX6_doWind_25 (by decide) ?_
  refine nv_iast hx hb hK hP hD hS 1 0 rfl rfl ((6 + (7 * k)) + 3) (by omega) (by decide) dX6_doWind_27 (ws' := [mdC q refusal isShot states length at_ good runs did, rwC (q 1) cI 129 (upd now ((6 + (7 * k)) + 3) (99 : Int32))].flatten) rfl (fun H locs hP hD hS => ?_)
  refine lv_iload_n hx hb dX6_doWind_28 rfl (lv_at hl 0 rfl) ?_
  rw [← hQQ]; exact W.iret hx hb hr (ct_end (F := (f_X6_doWind now k)) (u := (((99 : Int32) - (now ((6 + (7 * k)) + 3))), (upd now ((6 + (7 * k)) + 3) (99 : Int32)))) (rf := (fun u => some (.int u.1))) (wf := (fun u => [mdC q refusal isShot states length at_ good runs did, rwC (q 1) cI 129 u.2].flatten)) rfl rfl hP hD hS) hS.2.2 dX6_doWind_29
set_option maxRecDepth 100000 in
set_option maxHeartbeats 4000000 in
theorem k_X6_wind (l : Launch) (G : va_G) (cI cS cL : ClassId) (q : Nat → Nat) (refusal : Int32) (isShot : Bool) (states : Nat) (length : Nat) (at_ : Nat) (good : Bool) (runs : Bool) (did : Int32) (now : Nat → Int32) (book : Nat → Int32) (k : Nat) (hk : k < 8) (hst : states ≤ 6) (hrf : ¬ (((f_X6_refused (bI (if (f_X6_isClock (nI k)) = true then false else true))).1) = true)) : Ct l G (tyl cI cS cL) yX6_wind cX6_wind 2 (some (Jvm.ClassFile.FieldType.int)) 2 45 0 0 [.ref (q 0), .int (nI k)] [mdC q refusal isShot states length at_ good runs did, rwC (q 1) cI 129 now, rwC (q 4) cI 774 book].flatten (f_X6_wind states now book k) (fun u => some (.int u.1)) (fun u => [mdC q u.2.1 isShot u.2.2.1 length at_ good runs did, rwC (q 1) cI 129 u.2.2.2.1, rwC (q 4) cI 774 u.2.2.2.2].flatten) := by
  refine Ct.of (by decide +kernel) (Nat.le_of_ble_eq_true rfl) ?_
  intro p e s m args below meth c A ls hx hb hr hml hw hown hlocks hin hK hN hP hD hS hA hl
  have hown : s.vm.findClass RX6 = some m.cls := hown
  have X : Cx p s m args c cX6_wind 2 RX6 G (tyl cI cS cL) := ⟨hx, hb, hml, hown, hw, hK, hN⟩
  have hP : va_P G classes [mdC q refusal isShot states length at_ good runs did, rwC (q 1) cI 129 now, rwC (q 4) cI 774 book].flatten s.heap := hP
  have hl : lv_has ls 2 [(0, .ref (q 0)), (1, .int (nI k))] := hl
  generalize hQQ : MQ below _ args s 0 0 A = QQ
  refine lv_aload_n hx hb dX6_wind_0 rfl (lv_at hl 0 rfl) ?_
  refine lv_iload_n hx hb dX6_wind_1 rfl (lv_at hl 1 rfl) ?_
  refine ct_callS (As := [.int (nI k)]) (rest := [.ref (q 0)]) X hP hD hS hA (k_X6_isClock l G cI cS cL  (nI k)) cq_X6_isClock aw_973 ⟨Nat.le_of_ble_eq_true rfl, Nat.le_of_ble_eq_true rfl⟩ ([] : List Nat) (cs := []) rfl (by decide) (cs' := []) rfl rfl rfl hl.1 rfl (Nat.le_of_ble_eq_true rfl) dX6_wind_2 ⟨Nat.zero_le _, Nat.zero_le _⟩ rfl (bs' := [mdC q refusal isShot states length at_ good runs did, rwC (q 1) cI 129 now, rwC (q 4) cI 774 book]) rfl (fun H locs hP hD hS => ?_)
  have hM_5 : ∀ (v_4 : Bool) (ls : Array Slot) (H : Heap) (locs : List Loc), v_4 = (if (f_X6_isClock (nI k)) = true then false else true) → lv_has ls 2 [(0, .ref (q 0)), (1, .int (nI k))] → va_P G classes [mdC q refusal isShot states length at_ good runs did, rwC (q 1) cI 129 now, rwC (q 4) cI 774 book].flatten H → va_D A [mdC q refusal isShot states length at_ good runs did, rwC (q 1) cI 129 now, rwC (q 4) cI 774 book].flatten → va_S A s.heap H locs → W p l e ({ frames := 2, cells := 0, slots := 0, locals := 45 } : Room) s m args below meth c H locs 0 0 QQ (F0 m 13 ls [.int (bI v_4), .ref (q 0)]) := by
    intro v_4 ls H locs e_v_4 hl hP hD hS
    subst e_v_4
    refine ct_callV (As := [.int (bI (if (f_X6_isClock (nI k)) = true then false else true))]) (rest := []) X hP hD hS hA (k_X6_refused l G cI cS cL q refusal isShot states length at_ good runs did (bI (if (f_X6_isClock (nI k)) = true then false else true))) cp_X6_refused aw_929 ⟨Nat.le_of_ble_eq_true rfl, Nat.le_of_ble_eq_true rfl⟩ [0] (cs := [mdC q refusal isShot states length at_ good runs did]) rfl (by decide) (cs' := [mdC q ((f_X6_refused (bI (if (f_X6_isClock (nI k)) = true then false else true))).2) isShot states length at_ good runs did]) rfl rfl 4 rfl rfl (q0 := 0) rfl rfl hl.1 rfl (Nat.le_of_ble_eq_true rfl) dX6_wind_13 ⟨Nat.zero_le _, Nat.zero_le _⟩ rfl (bs' := [mdC q ((f_X6_refused (bI (if (f_X6_isClock (nI k)) = true then false else true))).2) isShot states length at_ good runs did, rwC (q 1) cI 129 now, rwC (q 4) cI 774 book]) rfl (fun H locs hP hD hS => ?_)
    refine bv_ifeq hx hb ((f_X6_refused (bI (if (f_X6_isClock (nI k)) = true then false else true))).1) 21 dX6_wind_16 (by decide) (fun c_6 => ?_) (fun c => absurd c hrf)
    refine lv_aload_n hx hb dX6_wind_21 rfl (lv_at hl 0 rfl) ?_
    refine ct_callV (As := []) (rest := []) X hP hD hS hA (k_X6_save l G cI cS cL q ((f_X6_refused (bI (if (f_X6_isClock (nI k)) = true then false else true))).2) isShot states length at_ good runs did now book hst) cp_X6_save aw_933 ⟨Nat.le_of_ble_eq_true rfl, Nat.le_of_ble_eq_true rfl⟩ [0, 1, 2] (cs := [mdC q ((f_X6_refused (bI (if (f_X6_isClock (nI k)) = true then false else true))).2) isShot states length at_ good runs did, rwC (q 1) cI 129 now, rwC (q 4) cI 774 book]) rfl (by decide) (cs' := [mdC q ((f_X6_refused (bI (if (f_X6_isClock (nI k)) = true then false else true))).2) isShot ((f_X6_save states now book).1) length at_ good runs did, rwC (q 1) cI 129 now, rwC (q 4) cI 774 ((f_X6_save states now book).2)]) rfl rfl 4 rfl rfl (q0 := 0) rfl rfl hl.1 rfl (Nat.le_of_ble_eq_true rfl) dX6_wind_22 ⟨Nat.zero_le _, Nat.zero_le _⟩ rfl (bs' := [mdC q ((f_X6_refused (bI (if (f_X6_isClock (nI k)) = true then false else true))).2) isShot ((f_X6_save states now book).1) length at_ good runs did, rwC (q 1) cI 129 now, rwC (q 4) cI 774 ((f_X6_save states now book).2)]) rfl (fun H locs hP hD hS => ?_)
    refine lv_aload_n hx hb dX6_wind_25 rfl (lv_at hl 0 rfl) ?_
    refine lv_iload_n hx hb dX6_wind_26 rfl (lv_at hl 1 rfl) ?_
    refine ct_callV (As := [.int (nI k)]) (rest := []) X hP hD hS hA (k_X6_doWind l G cI cS cL q ((f_X6_refused (bI (if (f_X6_isClock (nI k)) = true then false else true))).2) isShot ((f_X6_save states now book).1) length at_ good runs did now k (by omega)) cp_X6_doWind aw_999 ⟨Nat.le_of_ble_eq_true rfl, Nat.le_of_ble_eq_true rfl⟩ [0, 1] (cs := [mdC q ((f_X6_refused (bI (if (f_X6_isClock (nI k)) = true then false else true))).2) isShot ((f_X6_save states now book).1) length at_ good runs did, rwC (q 1) cI 129 now]) rfl (by decide) (cs' := [mdC q ((f_X6_refused (bI (if (f_X6_isClock (nI k)) = true then false else true))).2) isShot ((f_X6_save states now book).1) length at_ good runs did, rwC (q 1) cI 129 ((f_X6_doWind now k).2)]) rfl rfl 4 rfl rfl (q0 := 0) rfl rfl hl.1 rfl (Nat.le_of_ble_eq_true rfl) dX6_wind_27 ⟨Nat.zero_le _, Nat.zero_le _⟩ rfl (bs' := [mdC q ((f_X6_refused (bI (if (f_X6_isClock (nI k)) = true then false else true))).2) isShot ((f_X6_save states now book).1) length at_ good runs did, rwC (q 1) cI 129 ((f_X6_doWind now k).2), rwC (q 4) cI 774 ((f_X6_save states now book).2)]) rfl (fun H locs hP hD hS => ?_)
    rw [← hQQ]; exact W.iret hx hb hr (ct_end (F := (f_X6_wind states now book k)) (u := ((f_X6_doWind now k).1, (f_X6_refused (bI (if (f_X6_isClock (nI k)) = true then false else true))).2, (f_X6_save states now book).1, (f_X6_doWind now k).2, (f_X6_save states now book).2)) (rf := (fun u => some (.int u.1))) (wf := (fun u => [mdC q u.2.1 isShot u.2.2.1 length at_ good runs did, rwC (q 1) cI 129 u.2.2.2.1, rwC (q 4) cI 774 u.2.2.2.2].flatten)) rfl rfl hP hD hS) hS.2.2 dX6_wind_30
  refine bv_ifeq hx hb (f_X6_isClock (nI k)) 12 dX6_wind_5 (by decide) (fun c_1 => ?_) (fun c_1 => ?_)
  · refine lv_iconst (v := 1) hx hb dX6_wind_12 (by decide) ?_
    exact hM_5 true _ _ _ (if_neg c_1).symm (lv_sub hl [0, 1] rfl) hP hD hS
  · refine lv_iconst (v := 0) hx hb dX6_wind_8 (by decide) ?_
    refine lv_goto (tgt := 13) hx hb dX6_wind_9 (by decide) ?_
    exact hM_5 false _ _ _ (if_pos c_1).symm (lv_sub hl [0, 1] rfl) hP hD hS
set_option maxRecDepth 100000 in
set_option maxHeartbeats 4000000 in
theorem k_X6_wind_R (l : Launch) (G : va_G) (cI cS cL : ClassId) (q : Nat → Nat) (refusal : Int32) (isShot : Bool) (states : Nat) (length : Nat) (at_ : Nat) (good : Bool) (runs : Bool) (did : Int32) (now : Nat → Int32) (book : Nat → Int32) (k : Int32) (hrf : ((f_X6_refused (bI (if (f_X6_isClock k) = true then false else true))).1) = true) : Ct l G (tyl cI cS cL) yX6_wind cX6_wind 2 (some (Jvm.ClassFile.FieldType.int)) 2 45 0 0 [.ref (q 0), .int k] [mdC q refusal isShot states length at_ good runs did, rwC (q 1) cI 129 now, rwC (q 4) cI 774 book].flatten (f_X6_wind_R k) (fun u => some (.int u.1)) (fun u => [mdC q u.2 isShot states length at_ good runs did, rwC (q 1) cI 129 now, rwC (q 4) cI 774 book].flatten) := by
  refine Ct.of (by decide +kernel) (Nat.le_of_ble_eq_true rfl) ?_
  intro p e s m args below meth c A ls hx hb hr hml hw hown hlocks hin hK hN hP hD hS hA hl
  have hown : s.vm.findClass RX6 = some m.cls := hown
  have X : Cx p s m args c cX6_wind 2 RX6 G (tyl cI cS cL) := ⟨hx, hb, hml, hown, hw, hK, hN⟩
  have hP : va_P G classes [mdC q refusal isShot states length at_ good runs did, rwC (q 1) cI 129 now, rwC (q 4) cI 774 book].flatten s.heap := hP
  have hl : lv_has ls 2 [(0, .ref (q 0)), (1, .int k)] := hl
  generalize hQQ : MQ below _ args s 0 0 A = QQ
  refine lv_aload_n hx hb dX6_wind_0 rfl (lv_at hl 0 rfl) ?_
  refine lv_iload_n hx hb dX6_wind_1 rfl (lv_at hl 1 rfl) ?_
  refine ct_callS (As := [.int k]) (rest := [.ref (q 0)]) X hP hD hS hA (k_X6_isClock l G cI cS cL  k) cq_X6_isClock aw_973 ⟨Nat.le_of_ble_eq_true rfl, Nat.le_of_ble_eq_true rfl⟩ ([] : List Nat) (cs := []) rfl (by decide) (cs' := []) rfl rfl rfl hl.1 rfl (Nat.le_of_ble_eq_true rfl) dX6_wind_2 ⟨Nat.zero_le _, Nat.zero_le _⟩ rfl (bs' := [mdC q refusal isShot states length at_ good runs did, rwC (q 1) cI 129 now, rwC (q 4) cI 774 book]) rfl (fun H locs hP hD hS => ?_)
  have hM_5 : ∀ (v_4 : Bool) (ls : Array Slot) (H : Heap) (locs : List Loc), v_4 = (if (f_X6_isClock k) = true then false else true) → lv_has ls 2 [(0, .ref (q 0)), (1, .int k)] → va_P G classes [mdC q refusal isShot states length at_ good runs did, rwC (q 1) cI 129 now, rwC (q 4) cI 774 book].flatten H → va_D A [mdC q refusal isShot states length at_ good runs did, rwC (q 1) cI 129 now, rwC (q 4) cI 774 book].flatten → va_S A s.heap H locs → W p l e ({ frames := 2, cells := 0, slots := 0, locals := 45 } : Room) s m args below meth c H locs 0 0 QQ (F0 m 13 ls [.int (bI v_4), .ref (q 0)]) := by
    intro v_4 ls H locs e_v_4 hl hP hD hS
    subst e_v_4
    refine ct_callV (As := [.int (bI (if (f_X6_isClock k) = true then false else true))]) (rest := []) X hP hD hS hA (k_X6_refused l G cI cS cL q refusal isShot states length at_ good runs did (bI (if (f_X6_isClock k) = true then false else true))) cp_X6_refused aw_929 ⟨Nat.le_of_ble_eq_true rfl, Nat.le_of_ble_eq_true rfl⟩ [0] (cs := [mdC q refusal isShot states length at_ good runs did]) rfl (by decide) (cs' := [mdC q ((f_X6_refused (bI (if (f_X6_isClock k) = true then false else true))).2) isShot states length at_ good runs did]) rfl rfl 4 rfl rfl (q0 := 0) rfl rfl hl.1 rfl (Nat.le_of_ble_eq_true rfl) dX6_wind_13 ⟨Nat.zero_le _, Nat.zero_le _⟩ rfl (bs' := [mdC q ((f_X6_refused (bI (if (f_X6_isClock k) = true then false else true))).2) isShot states length at_ good runs did, rwC (q 1) cI 129 now, rwC (q 4) cI 774 book]) rfl (fun H locs hP hD hS => ?_)
    refine bv_ifeq hx hb ((f_X6_refused (bI (if (f_X6_isClock k) = true then false else true))).1) 21 dX6_wind_16 (by decide) (fun c => absurd hrf c) (fun c_6 => ?_)
    refine lv_iconst (v := 0) hx hb dX6_wind_19 (by decide) ?_
    rw [← hQQ]; exact W.iret hx hb hr (ct_end (F := (f_X6_wind_R k)) (u := ((0 : Int32), (f_X6_refused (bI (if (f_X6_isClock k) = true then false else true))).2)) (rf := (fun u => some (.int u.1))) (wf := (fun u => [mdC q u.2 isShot states length at_ good runs did, rwC (q 1) cI 129 now, rwC (q 4) cI 774 book].flatten)) rfl rfl hP hD hS) hS.2.2 dX6_wind_20
  refine bv_ifeq hx hb (f_X6_isClock k) 12 dX6_wind_5 (by decide) (fun c_1 => ?_) (fun c_1 => ?_)
  · refine lv_iconst (v := 1) hx hb dX6_wind_12 (by decide) ?_
    exact hM_5 true _ _ _ (if_neg c_1).symm (lv_sub hl [0, 1] rfl) hP hD hS
  · refine lv_iconst (v := 0) hx hb dX6_wind_8 (by decide) ?_
    refine lv_goto (tgt := 13) hx hb dX6_wind_9 (by decide) ?_
    exact hM_5 false _ _ _ (if_pos c_1).symm (lv_sub hl [0, 1] rfl) hP hD hS
set_option maxRecDepth 100000 in
set_option maxHeartbeats 4000000 in
theorem k_X6_speed (l : Launch) (G : va_G) (cI cS cL : ClassId) (q : Nat → Nat) (refusal : Int32) (isShot : Bool) (states : Nat) (length : Nat) (at_ : Nat) (good : Bool) (runs : Bool) (did : Int32) (now : Nat → Int32) (book : Nat → Int32) (k : Nat) (v : Int32) (hk : k < 8) (hst : states ≤ 6) (hrf : ¬ (((f_X6_refused (if (f_X6_isClock (nI k)) = true then (if (f_X6_in v.toInt64 (10 : Int64) (60 : Int64)) = true then (0 : Int32) else (2 : Int32)) else (1 : Int32))).1) = true)) : Ct l G (tyl cI cS cL) yX6_speed cX6_speed 3 (some (Jvm.ClassFile.FieldType.int)) 2 45 0 0 [.ref (q 0), .int (nI k), .int v] [mdC q refusal isShot states length at_ good runs did, rwC (q 1) cI 129 now, rwC (q 4) cI 774 book].flatten (f_X6_speed states now book k v) (fun u => some (.int u.1)) (fun u => [mdC q u.2.1 isShot u.2.2.1 length at_ good runs did, rwC (q 1) cI 129 u.2.2.2.1, rwC (q 4) cI 774 u.2.2.2.2].flatten) := by
  refine Ct.of (by decide +kernel) (Nat.le_of_ble_eq_true rfl) ?_
  intro p e s m args below meth c A ls hx hb hr hml hw hown hlocks hin hK hN hP hD hS hA hl
  have hown : s.vm.findClass RX6 = some m.cls := hown
  have X : Cx p s m args c cX6_speed 3 RX6 G (tyl cI cS cL) := ⟨hx, hb, hml, hown, hw, hK, hN⟩
  have hP : va_P G classes [mdC q refusal isShot states length at_ good runs did, rwC (q 1) cI 129 now, rwC (q 4) cI 774 book].flatten s.heap := hP
  have hl : lv_has ls 3 [(0, .ref (q 0)), (1, .int (nI k)), (2, .int v)] := hl
  generalize hQQ : MQ below _ args s 0 0 A = QQ
  refine lv_aload_n hx hb dX6_speed_0 rfl (lv_at hl 0 rfl) ?_
  refine lv_iload_n hx hb dX6_speed_1 rfl (lv_at hl 1 rfl) ?_
  refine ct_callS (As := [.int (nI k)]) (rest := [.ref (q 0)]) X hP hD hS hA (k_X6_isClock l G cI cS cL  (nI k)) cq_X6_isClock aw_973 ⟨Nat.le_of_ble_eq_true rfl, Nat.le_of_ble_eq_true rfl⟩ ([] : List Nat) (cs := []) rfl (by decide) (cs' := []) rfl rfl rfl hl.1 rfl (Nat.le_of_ble_eq_true rfl) dX6_speed_2 ⟨Nat.zero_le _, Nat.zero_le _⟩ rfl (bs' := [mdC q refusal isShot states length at_ good runs did, rwC (q 1) cI 129 now, rwC (q 4) cI 774 book]) rfl (fun H locs hP hD hS => ?_)
  have hM_10 : ∀ (v_9 : Int32) (ls : Array Slot) (H : Heap) (locs : List Loc), v_9 = (if (f_X6_isClock (nI k)) = true then (if (f_X6_in v.toInt64 (10 : Int64) (60 : Int64)) = true then (0 : Int32) else (2 : Int32)) else (1 : Int32)) → lv_has ls 3 [(0, .ref (q 0)), (1, .int (nI k)), (2, .int v)] → va_P G classes [mdC q refusal isShot states length at_ good runs did, rwC (q 1) cI 129 now, rwC (q 4) cI 774 book].flatten H → va_D A [mdC q refusal isShot states length at_ good runs did, rwC (q 1) cI 129 now, rwC (q 4) cI 774 book].flatten → va_S A s.heap H locs → W p l e ({ frames := 2, cells := 0, slots := 0, locals := 45 } : Room) s m args below meth c H locs 0 0 QQ (F0 m 31 ls [.int v_9, .ref (q 0)]) := by
    intro v_9 ls H locs e_v_9 hl hP hD hS
    subst e_v_9
    refine ct_callV (As := [.int (if (f_X6_isClock (nI k)) = true then (if (f_X6_in v.toInt64 (10 : Int64) (60 : Int64)) = true then (0 : Int32) else (2 : Int32)) else (1 : Int32))]) (rest := []) X hP hD hS hA (k_X6_refused l G cI cS cL q refusal isShot states length at_ good runs did (if (f_X6_isClock (nI k)) = true then (if (f_X6_in v.toInt64 (10 : Int64) (60 : Int64)) = true then (0 : Int32) else (2 : Int32)) else (1 : Int32))) cp_X6_refused aw_929 ⟨Nat.le_of_ble_eq_true rfl, Nat.le_of_ble_eq_true rfl⟩ [0] (cs := [mdC q refusal isShot states length at_ good runs did]) rfl (by decide) (cs' := [mdC q ((f_X6_refused (if (f_X6_isClock (nI k)) = true then (if (f_X6_in v.toInt64 (10 : Int64) (60 : Int64)) = true then (0 : Int32) else (2 : Int32)) else (1 : Int32))).2) isShot states length at_ good runs did]) rfl rfl 4 rfl rfl (q0 := 0) rfl rfl hl.1 rfl (Nat.le_of_ble_eq_true rfl) dX6_speed_31 ⟨Nat.zero_le _, Nat.zero_le _⟩ rfl (bs' := [mdC q ((f_X6_refused (if (f_X6_isClock (nI k)) = true then (if (f_X6_in v.toInt64 (10 : Int64) (60 : Int64)) = true then (0 : Int32) else (2 : Int32)) else (1 : Int32))).2) isShot states length at_ good runs did, rwC (q 1) cI 129 now, rwC (q 4) cI 774 book]) rfl (fun H locs hP hD hS => ?_)
    refine bv_ifeq hx hb ((f_X6_refused (if (f_X6_isClock (nI k)) = true then (if (f_X6_in v.toInt64 (10 : Int64) (60 : Int64)) = true then (0 : Int32) else (2 : Int32)) else (1 : Int32))).1) 39 dX6_speed_34 (by decide) (fun c_11 => ?_) (fun c => absurd c hrf)
    refine lv_aload_n hx hb dX6_speed_39 rfl (lv_at hl 0 rfl) ?_
    refine ct_callV (As := []) (rest := []) X hP hD hS hA (k_X6_save l G cI cS cL q ((f_X6_refused (if (f_X6_isClock (nI k)) = true then (if (f_X6_in v.toInt64 (10 : Int64) (60 : Int64)) = true then (0 : Int32) else (2 : Int32)) else (1 : Int32))).2) isShot states length at_ good runs did now book hst) cp_X6_save aw_933 ⟨Nat.le_of_ble_eq_true rfl, Nat.le_of_ble_eq_true rfl⟩ [0, 1, 2] (cs := [mdC q ((f_X6_refused (if (f_X6_isClock (nI k)) = true then (if (f_X6_in v.toInt64 (10 : Int64) (60 : Int64)) = true then (0 : Int32) else (2 : Int32)) else (1 : Int32))).2) isShot states length at_ good runs did, rwC (q 1) cI 129 now, rwC (q 4) cI 774 book]) rfl (by decide) (cs' := [mdC q ((f_X6_refused (if (f_X6_isClock (nI k)) = true then (if (f_X6_in v.toInt64 (10 : Int64) (60 : Int64)) = true then (0 : Int32) else (2 : Int32)) else (1 : Int32))).2) isShot ((f_X6_save states now book).1) length at_ good runs did, rwC (q 1) cI 129 now, rwC (q 4) cI 774 ((f_X6_save states now book).2)]) rfl rfl 4 rfl rfl (q0 := 0) rfl rfl hl.1 rfl (Nat.le_of_ble_eq_true rfl) dX6_speed_40 ⟨Nat.zero_le _, Nat.zero_le _⟩ rfl (bs' := [mdC q ((f_X6_refused (if (f_X6_isClock (nI k)) = true then (if (f_X6_in v.toInt64 (10 : Int64) (60 : Int64)) = true then (0 : Int32) else (2 : Int32)) else (1 : Int32))).2) isShot ((f_X6_save states now book).1) length at_ good runs did, rwC (q 1) cI 129 now, rwC (q 4) cI 774 ((f_X6_save states now book).2)]) rfl (fun H locs hP hD hS => ?_)
    refine lv_aload_n hx hb dX6_speed_43 rfl (lv_at hl 0 rfl) ?_
    refine lv_iload_n hx hb dX6_speed_44 rfl (lv_at hl 1 rfl) ?_
    refine ct_callS (As := [.int (nI k)]) (rest := [.ref (q 0)]) X hP hD hS hA (k_X6_spot l G cI cS cL  k) cq_X6_spot aw_951 ⟨Nat.le_of_ble_eq_true rfl, Nat.le_of_ble_eq_true rfl⟩ ([] : List Nat) (cs := []) rfl (by decide) (cs' := []) rfl rfl rfl hl.1 rfl (Nat.le_of_ble_eq_true rfl) dX6_speed_45 ⟨Nat.zero_le _, Nat.zero_le _⟩ rfl (bs' := [mdC q ((f_X6_refused (if (f_X6_isClock (nI k)) = true then (if (f_X6_in v.toInt64 (10 : Int64) (60 : Int64)) = true then (0 : Int32) else (2 : Int32)) else (1 : Int32))).2) isShot ((f_X6_save states now book).1) length at_ good runs did, rwC (q 1) cI 129 now, rwC (q 4) cI 774 ((f_X6_save states now book).2)]) rfl (fun H locs hP hD hS => ?_)
    refine lv_iconst (v := 1) hx hb dX6_speed_48 (by decide) ?_
    refine nv_iadd hx hb (6 + (7 * k)) 1 dX6_speed_49 ?_
    refine lv_iload_n hx hb dX6_speed_50 rfl (lv_at hl 2 rfl) ?_
    refine ct_callV (As := [.int (nI ((6 + (7 * k)) + 1)), .int v]) (rest := []) X hP hD hS hA (k_X6_put l G cI cS cL q ((f_X6_refused (if (f_X6_isClock (nI k)) = true then (if (f_X6_in v.toInt64 (10 : Int64) (60 : Int64)) = true then (0 : Int32) else (2 : Int32)) else (1 : Int32))).2) isShot ((f_X6_save states now book).1) length at_ good runs did now ((6 + (7 * k)) + 1) v (by omega)) cp_X6_put aw_1009 ⟨Nat.le_of_ble_eq_true rfl, Nat.le_of_ble_eq_true rfl⟩ [0, 1] (cs := [mdC q ((f_X6_refused (if (f_X6_isClock (nI k)) = true then (if (f_X6_in v.toInt64 (10 : Int64) (60 : Int64)) = true then (0 : Int32) else (2 : Int32)) else (1 : Int32))).2) isShot ((f_X6_save states now book).1) length at_ good runs did, rwC (q 1) cI 129 now]) rfl (by decide) (cs' := [mdC q ((f_X6_refused (if (f_X6_isClock (nI k)) = true then (if (f_X6_in v.toInt64 (10 : Int64) (60 : Int64)) = true then (0 : Int32) else (2 : Int32)) else (1 : Int32))).2) isShot ((f_X6_save states now book).1) length at_ good runs did, rwC (q 1) cI 129 ((f_X6_put now ((6 + (7 * k)) + 1) v).2)]) rfl rfl 4 rfl rfl (q0 := 0) rfl rfl hl.1 rfl (Nat.le_of_ble_eq_true rfl) dX6_speed_51 ⟨Nat.zero_le _, Nat.zero_le _⟩ rfl (bs' := [mdC q ((f_X6_refused (if (f_X6_isClock (nI k)) = true then (if (f_X6_in v.toInt64 (10 : Int64) (60 : Int64)) = true then (0 : Int32) else (2 : Int32)) else (1 : Int32))).2) isShot ((f_X6_save states now book).1) length at_ good runs did, rwC (q 1) cI 129 ((f_X6_put now ((6 + (7 * k)) + 1) v).2), rwC (q 4) cI 774 ((f_X6_save states now book).2)]) rfl (fun H locs hP hD hS => ?_)
    rw [← hQQ]; exact W.iret hx hb hr (ct_end (F := (f_X6_speed states now book k v)) (u := ((f_X6_put now ((6 + (7 * k)) + 1) v).1, (f_X6_refused (if (f_X6_isClock (nI k)) = true then (if (f_X6_in v.toInt64 (10 : Int64) (60 : Int64)) = true then (0 : Int32) else (2 : Int32)) else (1 : Int32))).2, (f_X6_save states now book).1, (f_X6_put now ((6 + (7 * k)) + 1) v).2, (f_X6_save states now book).2)) (rf := (fun u => some (.int u.1))) (wf := (fun u => [mdC q u.2.1 isShot u.2.2.1 length at_ good runs did, rwC (q 1) cI 129 u.2.2.2.1, rwC (q 4) cI 774 u.2.2.2.2].flatten)) rfl rfl hP hD hS) hS.2.2 dX6_speed_54
  refine bv_ifne hx hb (f_X6_isClock (nI k)) 12 dX6_speed_5 (by decide) (fun c_1 => ?_) (fun c_1 => ?_)
  · refine lv_iload_n hx hb dX6_speed_12 rfl (lv_at hl 2 rfl) ?_
    refine lv_i2l hx hb dX6_speed_13 rfl ?_
    refine lv_ldc2 hx hb hown (hw _ aw_1007) dX6_speed_14 ?_
    refine lv_ldc2 hx hb hown (hw _ aw_1008) dX6_speed_17 ?_
    refine ct_callS (As := [.long v.toInt64, .long (10 : Int64), .long (60 : Int64)]) (rest := [.ref (q 0)]) X hP hD hS hA (k_X6_in l G cI cS cL  v.toInt64 (10 : Int64) (60 : Int64)) cq_X6_in aw_926 ⟨Nat.le_of_ble_eq_true rfl, Nat.le_of_ble_eq_true rfl⟩ ([] : List Nat) (cs := []) rfl (by decide) (cs' := []) rfl rfl rfl hl.1 rfl (Nat.le_of_ble_eq_true rfl) dX6_speed_20 ⟨Nat.zero_le _, Nat.zero_le _⟩ rfl (bs' := [mdC q refusal isShot states length at_ good runs did, rwC (q 1) cI 129 now, rwC (q 4) cI 774 book]) rfl (fun H locs hP hD hS => ?_)
    have hM_6 : ∀ (v_5 : Int32) (ls : Array Slot) (H : Heap) (locs : List Loc), v_5 = (if (f_X6_in v.toInt64 (10 : Int64) (60 : Int64)) = true then (0 : Int32) else (2 : Int32)) → lv_has ls 3 [(0, .ref (q 0)), (1, .int (nI k)), (2, .int v)] → va_P G classes [mdC q refusal isShot states length at_ good runs did, rwC (q 1) cI 129 now, rwC (q 4) cI 774 book].flatten H → va_D A [mdC q refusal isShot states length at_ good runs did, rwC (q 1) cI 129 now, rwC (q 4) cI 774 book].flatten → va_S A s.heap H locs → W p l e ({ frames := 2, cells := 0, slots := 0, locals := 45 } : Room) s m args below meth c H locs 0 0 QQ (F0 m 31 ls [.int v_5, .ref (q 0)]) := by
      intro v_5 ls H locs e_v_5 hl hP hD hS
      subst e_v_5
      exact hM_10 (if (f_X6_in v.toInt64 (10 : Int64) (60 : Int64)) = true then (0 : Int32) else (2 : Int32)) _ _ _ (if_pos c_1).symm (lv_sub hl [0, 1, 2] rfl) hP hD hS
    refine bv_ifne hx hb (f_X6_in v.toInt64 (10 : Int64) (60 : Int64)) 30 dX6_speed_23 (by decide) (fun c_2 => ?_) (fun c_2 => ?_)
    · refine lv_iconst (v := 0) hx hb dX6_speed_30 (by decide) ?_
      exact hM_6 (0 : Int32) _ _ _ (if_pos c_2).symm (lv_sub hl [0, 1, 2] rfl) hP hD hS
    · refine lv_iconst (v := 2) hx hb dX6_speed_26 (by decide) ?_
      refine lv_goto (tgt := 31) hx hb dX6_speed_27 (by decide) ?_
      exact hM_6 (2 : Int32) _ _ _ (if_neg c_2).symm (lv_sub hl [0, 1, 2] rfl) hP hD hS
  · refine lv_iconst (v := 1) hx hb dX6_speed_8 (by decide) ?_
    refine lv_goto (tgt := 31) hx hb dX6_speed_9 (by decide) ?_
    exact hM_10 (1 : Int32) _ _ _ (if_neg c_1).symm (lv_sub hl [0, 1, 2] rfl) hP hD hS
set_option maxRecDepth 100000 in
set_option maxHeartbeats 4000000 in
theorem k_X6_speed_R (l : Launch) (G : va_G) (cI cS cL : ClassId) (q : Nat → Nat) (refusal : Int32) (isShot : Bool) (states : Nat) (length : Nat) (at_ : Nat) (good : Bool) (runs : Bool) (did : Int32) (now : Nat → Int32) (book : Nat → Int32) (k : Int32) (v : Int32) (hrf : ((f_X6_refused (if (f_X6_isClock k) = true then (if (f_X6_in v.toInt64 (10 : Int64) (60 : Int64)) = true then (0 : Int32) else (2 : Int32)) else (1 : Int32))).1) = true) : Ct l G (tyl cI cS cL) yX6_speed cX6_speed 3 (some (Jvm.ClassFile.FieldType.int)) 2 45 0 0 [.ref (q 0), .int k, .int v] [mdC q refusal isShot states length at_ good runs did, rwC (q 1) cI 129 now, rwC (q 4) cI 774 book].flatten (f_X6_speed_R k v) (fun u => some (.int u.1)) (fun u => [mdC q u.2 isShot states length at_ good runs did, rwC (q 1) cI 129 now, rwC (q 4) cI 774 book].flatten) := by
  refine Ct.of (by decide +kernel) (Nat.le_of_ble_eq_true rfl) ?_
  intro p e s m args below meth c A ls hx hb hr hml hw hown hlocks hin hK hN hP hD hS hA hl
  have hown : s.vm.findClass RX6 = some m.cls := hown
  have X : Cx p s m args c cX6_speed 3 RX6 G (tyl cI cS cL) := ⟨hx, hb, hml, hown, hw, hK, hN⟩
  have hP : va_P G classes [mdC q refusal isShot states length at_ good runs did, rwC (q 1) cI 129 now, rwC (q 4) cI 774 book].flatten s.heap := hP
  have hl : lv_has ls 3 [(0, .ref (q 0)), (1, .int k), (2, .int v)] := hl
  generalize hQQ : MQ below _ args s 0 0 A = QQ
  refine lv_aload_n hx hb dX6_speed_0 rfl (lv_at hl 0 rfl) ?_
  refine lv_iload_n hx hb dX6_speed_1 rfl (lv_at hl 1 rfl) ?_
  refine ct_callS (As := [.int k]) (rest := [.ref (q 0)]) X hP hD hS hA (k_X6_isClock l G cI cS cL  k) cq_X6_isClock aw_973 ⟨Nat.le_of_ble_eq_true rfl, Nat.le_of_ble_eq_true rfl⟩ ([] : List Nat) (cs := []) rfl (by decide) (cs' := []) rfl rfl rfl hl.1 rfl (Nat.le_of_ble_eq_true rfl) dX6_speed_2 ⟨Nat.zero_le _, Nat.zero_le _⟩ rfl (bs' := [mdC q refusal isShot states length at_ good runs did, rwC (q 1) cI 129 now, rwC (q 4) cI 774 book]) rfl (fun H locs hP hD hS => ?_)
  have hM_10 : ∀ (v_9 : Int32) (ls : Array Slot) (H : Heap) (locs : List Loc), v_9 = (if (f_X6_isClock k) = true then (if (f_X6_in v.toInt64 (10 : Int64) (60 : Int64)) = true then (0 : Int32) else (2 : Int32)) else (1 : Int32)) → lv_has ls 3 [(0, .ref (q 0)), (1, .int k), (2, .int v)] → va_P G classes [mdC q refusal isShot states length at_ good runs did, rwC (q 1) cI 129 now, rwC (q 4) cI 774 book].flatten H → va_D A [mdC q refusal isShot states length at_ good runs did, rwC (q 1) cI 129 now, rwC (q 4) cI 774 book].flatten → va_S A s.heap H locs → W p l e ({ frames := 2, cells := 0, slots := 0, locals := 45 } : Room) s m args below meth c H locs 0 0 QQ (F0 m 31 ls [.int v_9, .ref (q 0)]) := by
    intro v_9 ls H locs e_v_9 hl hP hD hS
    subst e_v_9
    refine ct_callV (As := [.int (if (f_X6_isClock k) = true then (if (f_X6_in v.toInt64 (10 : Int64) (60 : Int64)) = true then (0 : Int32) else (2 : Int32)) else (1 : Int32))]) (rest := []) X hP hD hS hA (k_X6_refused l G cI cS cL q refusal isShot states length at_ good runs did (if (f_X6_isClock k) = true then (if (f_X6_in v.toInt64 (10 : Int64) (60 : Int64)) = true then (0 : Int32) else (2 : Int32)) else (1 : Int32))) cp_X6_refused aw_929 ⟨Nat.le_of_ble_eq_true rfl, Nat.le_of_ble_eq_true rfl⟩ [0] (cs := [mdC q refusal isShot states length at_ good runs did]) rfl (by decide) (cs' := [mdC q ((f_X6_refused (if (f_X6_isClock k) = true then (if (f_X6_in v.toInt64 (10 : Int64) (60 : Int64)) = true then (0 : Int32) else (2 : Int32)) else (1 : Int32))).2) isShot states length at_ good runs did]) rfl rfl 4 rfl rfl (q0 := 0) rfl rfl hl.1 rfl (Nat.le_of_ble_eq_true rfl) dX6_speed_31 ⟨Nat.zero_le _, Nat.zero_le _⟩ rfl (bs' := [mdC q ((f_X6_refused (if (f_X6_isClock k) = true then (if (f_X6_in v.toInt64 (10 : Int64) (60 : Int64)) = true then (0 : Int32) else (2 : Int32)) else (1 : Int32))).2) isShot states length at_ good runs did, rwC (q 1) cI 129 now, rwC (q 4) cI 774 book]) rfl (fun H locs hP hD hS => ?_)
    refine bv_ifeq hx hb ((f_X6_refused (if (f_X6_isClock k) = true then (if (f_X6_in v.toInt64 (10 : Int64) (60 : Int64)) = true then (0 : Int32) else (2 : Int32)) else (1 : Int32))).1) 39 dX6_speed_34 (by decide) (fun c => absurd hrf c) (fun c_11 => ?_)
    refine lv_iconst (v := 0) hx hb dX6_speed_37 (by decide) ?_
    rw [← hQQ]; exact W.iret hx hb hr (ct_end (F := (f_X6_speed_R k v)) (u := ((0 : Int32), (f_X6_refused (if (f_X6_isClock k) = true then (if (f_X6_in v.toInt64 (10 : Int64) (60 : Int64)) = true then (0 : Int32) else (2 : Int32)) else (1 : Int32))).2)) (rf := (fun u => some (.int u.1))) (wf := (fun u => [mdC q u.2 isShot states length at_ good runs did, rwC (q 1) cI 129 now, rwC (q 4) cI 774 book].flatten)) rfl rfl hP hD hS) hS.2.2 dX6_speed_38
  refine bv_ifne hx hb (f_X6_isClock k) 12 dX6_speed_5 (by decide) (fun c_1 => ?_) (fun c_1 => ?_)
  · refine lv_iload_n hx hb dX6_speed_12 rfl (lv_at hl 2 rfl) ?_
    refine lv_i2l hx hb dX6_speed_13 rfl ?_
    refine lv_ldc2 hx hb hown (hw _ aw_1007) dX6_speed_14 ?_
    refine lv_ldc2 hx hb hown (hw _ aw_1008) dX6_speed_17 ?_
    refine ct_callS (As := [.long v.toInt64, .long (10 : Int64), .long (60 : Int64)]) (rest := [.ref (q 0)]) X hP hD hS hA (k_X6_in l G cI cS cL  v.toInt64 (10 : Int64) (60 : Int64)) cq_X6_in aw_926 ⟨Nat.le_of_ble_eq_true rfl, Nat.le_of_ble_eq_true rfl⟩ ([] : List Nat) (cs := []) rfl (by decide) (cs' := []) rfl rfl rfl hl.1 rfl (Nat.le_of_ble_eq_true rfl) dX6_speed_20 ⟨Nat.zero_le _, Nat.zero_le _⟩ rfl (bs' := [mdC q refusal isShot states length at_ good runs did, rwC (q 1) cI 129 now, rwC (q 4) cI 774 book]) rfl (fun H locs hP hD hS => ?_)
    have hM_6 : ∀ (v_5 : Int32) (ls : Array Slot) (H : Heap) (locs : List Loc), v_5 = (if (f_X6_in v.toInt64 (10 : Int64) (60 : Int64)) = true then (0 : Int32) else (2 : Int32)) → lv_has ls 3 [(0, .ref (q 0)), (1, .int k), (2, .int v)] → va_P G classes [mdC q refusal isShot states length at_ good runs did, rwC (q 1) cI 129 now, rwC (q 4) cI 774 book].flatten H → va_D A [mdC q refusal isShot states length at_ good runs did, rwC (q 1) cI 129 now, rwC (q 4) cI 774 book].flatten → va_S A s.heap H locs → W p l e ({ frames := 2, cells := 0, slots := 0, locals := 45 } : Room) s m args below meth c H locs 0 0 QQ (F0 m 31 ls [.int v_5, .ref (q 0)]) := by
      intro v_5 ls H locs e_v_5 hl hP hD hS
      subst e_v_5
      exact hM_10 (if (f_X6_in v.toInt64 (10 : Int64) (60 : Int64)) = true then (0 : Int32) else (2 : Int32)) _ _ _ (if_pos c_1).symm (lv_sub hl [0, 1, 2] rfl) hP hD hS
    refine bv_ifne hx hb (f_X6_in v.toInt64 (10 : Int64) (60 : Int64)) 30 dX6_speed_23 (by decide) (fun c_2 => ?_) (fun c_2 => ?_)
    · refine lv_iconst (v := 0) hx hb dX6_speed_30 (by decide) ?_
      exact hM_6 (0 : Int32) _ _ _ (if_pos c_2).symm (lv_sub hl [0, 1, 2] rfl) hP hD hS
    · refine lv_iconst (v := 2) hx hb dX6_speed_26 (by decide) ?_
      refine lv_goto (tgt := 31) hx hb dX6_speed_27 (by decide) ?_
      exact hM_6 (2 : Int32) _ _ _ (if_neg c_2).symm (lv_sub hl [0, 1, 2] rfl) hP hD hS
  · refine lv_iconst (v := 1) hx hb dX6_speed_8 (by decide) ?_
    refine lv_goto (tgt := 31) hx hb dX6_speed_9 (by decide) ?_
    exact hM_10 (1 : Int32) _ _ _ (if_neg c_1).symm (lv_sub hl [0, 1, 2] rfl) hP hD hS
set_option maxRecDepth 100000 in
set_option maxHeartbeats 4000000 in
theorem k_X6_give (l : Launch) (G : va_G) (cI cS cL : ClassId) (q : Nat → Nat) (refusal : Int32) (isShot : Bool) (states : Nat) (length : Nat) (at_ : Nat) (good : Bool) (runs : Bool) (did : Int32) (now : Nat → Int32) (book : Nat → Int32) (b : Nat) (v : Int32) (hb3 : b < 3) (hst : states ≤ 6) (hrf : ¬ (((f_X6_refused (if (f_X6_isBeam (nI b)) = true then (if (f_X6_in v.toInt64 (0 : Int64) (20 : Int64)) = true then (0 : Int32) else (2 : Int32)) else (1 : Int32))).1) = true)) : Ct l G (tyl cI cS cL) yX6_give cX6_give 3 (some (Jvm.ClassFile.FieldType.int)) 2 45 0 0 [.ref (q 0), .int (nI b), .int v] [mdC q refusal isShot states length at_ good runs did, rwC (q 1) cI 129 now, rwC (q 4) cI 774 book].flatten (f_X6_give states now book b v) (fun u => some (.int u.1)) (fun u => [mdC q u.2.1 isShot u.2.2.1 length at_ good runs did, rwC (q 1) cI 129 u.2.2.2.1, rwC (q 4) cI 774 u.2.2.2.2].flatten) := by
  refine Ct.of (by decide +kernel) (Nat.le_of_ble_eq_true rfl) ?_
  intro p e s m args below meth c A ls hx hb hr hml hw hown hlocks hin hK hN hP hD hS hA hl
  have hown : s.vm.findClass RX6 = some m.cls := hown
  have X : Cx p s m args c cX6_give 3 RX6 G (tyl cI cS cL) := ⟨hx, hb, hml, hown, hw, hK, hN⟩
  have hP : va_P G classes [mdC q refusal isShot states length at_ good runs did, rwC (q 1) cI 129 now, rwC (q 4) cI 774 book].flatten s.heap := hP
  have hl : lv_has ls 3 [(0, .ref (q 0)), (1, .int (nI b)), (2, .int v)] := hl
  generalize hQQ : MQ below _ args s 0 0 A = QQ
  refine lv_aload_n hx hb dX6_give_0 rfl (lv_at hl 0 rfl) ?_
  refine lv_iload_n hx hb dX6_give_1 rfl (lv_at hl 1 rfl) ?_
  refine ct_callS (As := [.int (nI b)]) (rest := [.ref (q 0)]) X hP hD hS hA (k_X6_isBeam l G cI cS cL  (nI b)) cq_X6_isBeam aw_987 ⟨Nat.le_of_ble_eq_true rfl, Nat.le_of_ble_eq_true rfl⟩ ([] : List Nat) (cs := []) rfl (by decide) (cs' := []) rfl rfl rfl hl.1 rfl (Nat.le_of_ble_eq_true rfl) dX6_give_2 ⟨Nat.zero_le _, Nat.zero_le _⟩ rfl (bs' := [mdC q refusal isShot states length at_ good runs did, rwC (q 1) cI 129 now, rwC (q 4) cI 774 book]) rfl (fun H locs hP hD hS => ?_)
  have hM_10 : ∀ (v_9 : Int32) (ls : Array Slot) (H : Heap) (locs : List Loc), v_9 = (if (f_X6_isBeam (nI b)) = true then (if (f_X6_in v.toInt64 (0 : Int64) (20 : Int64)) = true then (0 : Int32) else (2 : Int32)) else (1 : Int32)) → lv_has ls 3 [(0, .ref (q 0)), (1, .int (nI b)), (2, .int v)] → va_P G classes [mdC q refusal isShot states length at_ good runs did, rwC (q 1) cI 129 now, rwC (q 4) cI 774 book].flatten H → va_D A [mdC q refusal isShot states length at_ good runs did, rwC (q 1) cI 129 now, rwC (q 4) cI 774 book].flatten → va_S A s.heap H locs → W p l e ({ frames := 2, cells := 0, slots := 0, locals := 45 } : Room) s m args below meth c H locs 0 0 QQ (F0 m 29 ls [.int v_9, .ref (q 0)]) := by
    intro v_9 ls H locs e_v_9 hl hP hD hS
    subst e_v_9
    refine ct_callV (As := [.int (if (f_X6_isBeam (nI b)) = true then (if (f_X6_in v.toInt64 (0 : Int64) (20 : Int64)) = true then (0 : Int32) else (2 : Int32)) else (1 : Int32))]) (rest := []) X hP hD hS hA (k_X6_refused l G cI cS cL q refusal isShot states length at_ good runs did (if (f_X6_isBeam (nI b)) = true then (if (f_X6_in v.toInt64 (0 : Int64) (20 : Int64)) = true then (0 : Int32) else (2 : Int32)) else (1 : Int32))) cp_X6_refused aw_929 ⟨Nat.le_of_ble_eq_true rfl, Nat.le_of_ble_eq_true rfl⟩ [0] (cs := [mdC q refusal isShot states length at_ good runs did]) rfl (by decide) (cs' := [mdC q ((f_X6_refused (if (f_X6_isBeam (nI b)) = true then (if (f_X6_in v.toInt64 (0 : Int64) (20 : Int64)) = true then (0 : Int32) else (2 : Int32)) else (1 : Int32))).2) isShot states length at_ good runs did]) rfl rfl 4 rfl rfl (q0 := 0) rfl rfl hl.1 rfl (Nat.le_of_ble_eq_true rfl) dX6_give_29 ⟨Nat.zero_le _, Nat.zero_le _⟩ rfl (bs' := [mdC q ((f_X6_refused (if (f_X6_isBeam (nI b)) = true then (if (f_X6_in v.toInt64 (0 : Int64) (20 : Int64)) = true then (0 : Int32) else (2 : Int32)) else (1 : Int32))).2) isShot states length at_ good runs did, rwC (q 1) cI 129 now, rwC (q 4) cI 774 book]) rfl (fun H locs hP hD hS => ?_)
    refine bv_ifeq hx hb ((f_X6_refused (if (f_X6_isBeam (nI b)) = true then (if (f_X6_in v.toInt64 (0 : Int64) (20 : Int64)) = true then (0 : Int32) else (2 : Int32)) else (1 : Int32))).1) 37 dX6_give_32 (by decide) (fun c_11 => ?_) (fun c => absurd c hrf)
    refine lv_aload_n hx hb dX6_give_37 rfl (lv_at hl 0 rfl) ?_
    refine ct_callV (As := []) (rest := []) X hP hD hS hA (k_X6_save l G cI cS cL q ((f_X6_refused (if (f_X6_isBeam (nI b)) = true then (if (f_X6_in v.toInt64 (0 : Int64) (20 : Int64)) = true then (0 : Int32) else (2 : Int32)) else (1 : Int32))).2) isShot states length at_ good runs did now book hst) cp_X6_save aw_933 ⟨Nat.le_of_ble_eq_true rfl, Nat.le_of_ble_eq_true rfl⟩ [0, 1, 2] (cs := [mdC q ((f_X6_refused (if (f_X6_isBeam (nI b)) = true then (if (f_X6_in v.toInt64 (0 : Int64) (20 : Int64)) = true then (0 : Int32) else (2 : Int32)) else (1 : Int32))).2) isShot states length at_ good runs did, rwC (q 1) cI 129 now, rwC (q 4) cI 774 book]) rfl (by decide) (cs' := [mdC q ((f_X6_refused (if (f_X6_isBeam (nI b)) = true then (if (f_X6_in v.toInt64 (0 : Int64) (20 : Int64)) = true then (0 : Int32) else (2 : Int32)) else (1 : Int32))).2) isShot ((f_X6_save states now book).1) length at_ good runs did, rwC (q 1) cI 129 now, rwC (q 4) cI 774 ((f_X6_save states now book).2)]) rfl rfl 4 rfl rfl (q0 := 0) rfl rfl hl.1 rfl (Nat.le_of_ble_eq_true rfl) dX6_give_38 ⟨Nat.zero_le _, Nat.zero_le _⟩ rfl (bs' := [mdC q ((f_X6_refused (if (f_X6_isBeam (nI b)) = true then (if (f_X6_in v.toInt64 (0 : Int64) (20 : Int64)) = true then (0 : Int32) else (2 : Int32)) else (1 : Int32))).2) isShot ((f_X6_save states now book).1) length at_ good runs did, rwC (q 1) cI 129 now, rwC (q 4) cI 774 ((f_X6_save states now book).2)]) rfl (fun H locs hP hD hS => ?_)
    refine lv_aload_n hx hb dX6_give_41 rfl (lv_at hl 0 rfl) ?_
    refine lv_iconst (v := 0) hx hb dX6_give_42 (by decide) ?_
    refine lv_iload_n hx hb dX6_give_43 rfl (lv_at hl 1 rfl) ?_
    refine nv_iadd hx hb 0 b dX6_give_44 ?_
    refine lv_iload_n hx hb dX6_give_45 rfl (lv_at hl 2 rfl) ?_
    refine ct_callV (As := [.int (nI (0 + b)), .int v]) (rest := []) X hP hD hS hA (k_X6_put l G cI cS cL q ((f_X6_refused (if (f_X6_isBeam (nI b)) = true then (if (f_X6_in v.toInt64 (0 : Int64) (20 : Int64)) = true then (0 : Int32) else (2 : Int32)) else (1 : Int32))).2) isShot ((f_X6_save states now book).1) length at_ good runs did now (0 + b) v (by omega)) cp_X6_put aw_1009 ⟨Nat.le_of_ble_eq_true rfl, Nat.le_of_ble_eq_true rfl⟩ [0, 1] (cs := [mdC q ((f_X6_refused (if (f_X6_isBeam (nI b)) = true then (if (f_X6_in v.toInt64 (0 : Int64) (20 : Int64)) = true then (0 : Int32) else (2 : Int32)) else (1 : Int32))).2) isShot ((f_X6_save states now book).1) length at_ good runs did, rwC (q 1) cI 129 now]) rfl (by decide) (cs' := [mdC q ((f_X6_refused (if (f_X6_isBeam (nI b)) = true then (if (f_X6_in v.toInt64 (0 : Int64) (20 : Int64)) = true then (0 : Int32) else (2 : Int32)) else (1 : Int32))).2) isShot ((f_X6_save states now book).1) length at_ good runs did, rwC (q 1) cI 129 ((f_X6_put now (0 + b) v).2)]) rfl rfl 4 rfl rfl (q0 := 0) rfl rfl hl.1 rfl (Nat.le_of_ble_eq_true rfl) dX6_give_46 ⟨Nat.zero_le _, Nat.zero_le _⟩ rfl (bs' := [mdC q ((f_X6_refused (if (f_X6_isBeam (nI b)) = true then (if (f_X6_in v.toInt64 (0 : Int64) (20 : Int64)) = true then (0 : Int32) else (2 : Int32)) else (1 : Int32))).2) isShot ((f_X6_save states now book).1) length at_ good runs did, rwC (q 1) cI 129 ((f_X6_put now (0 + b) v).2), rwC (q 4) cI 774 ((f_X6_save states now book).2)]) rfl (fun H locs hP hD hS => ?_)
    rw [← hQQ]; exact W.iret hx hb hr (ct_end (F := (f_X6_give states now book b v)) (u := ((f_X6_put now (0 + b) v).1, (f_X6_refused (if (f_X6_isBeam (nI b)) = true then (if (f_X6_in v.toInt64 (0 : Int64) (20 : Int64)) = true then (0 : Int32) else (2 : Int32)) else (1 : Int32))).2, (f_X6_save states now book).1, (f_X6_put now (0 + b) v).2, (f_X6_save states now book).2)) (rf := (fun u => some (.int u.1))) (wf := (fun u => [mdC q u.2.1 isShot u.2.2.1 length at_ good runs did, rwC (q 1) cI 129 u.2.2.2.1, rwC (q 4) cI 774 u.2.2.2.2].flatten)) rfl rfl hP hD hS) hS.2.2 dX6_give_49
  refine bv_ifne hx hb (f_X6_isBeam (nI b)) 12 dX6_give_5 (by decide) (fun c_1 => ?_) (fun c_1 => ?_)
  · refine lv_iload_n hx hb dX6_give_12 rfl (lv_at hl 2 rfl) ?_
    refine lv_i2l hx hb dX6_give_13 rfl ?_
    refine lv_lconst (v := 0) hx hb dX6_give_14 (by decide) ?_
    refine lv_ldc2 hx hb hown (hw _ aw_1017) dX6_give_15 ?_
    refine ct_callS (As := [.long v.toInt64, .long (0 : Int64), .long (20 : Int64)]) (rest := [.ref (q 0)]) X hP hD hS hA (k_X6_in l G cI cS cL  v.toInt64 (0 : Int64) (20 : Int64)) cq_X6_in aw_926 ⟨Nat.le_of_ble_eq_true rfl, Nat.le_of_ble_eq_true rfl⟩ ([] : List Nat) (cs := []) rfl (by decide) (cs' := []) rfl rfl rfl hl.1 rfl (Nat.le_of_ble_eq_true rfl) dX6_give_18 ⟨Nat.zero_le _, Nat.zero_le _⟩ rfl (bs' := [mdC q refusal isShot states length at_ good runs did, rwC (q 1) cI 129 now, rwC (q 4) cI 774 book]) rfl (fun H locs hP hD hS => ?_)
    have hM_6 : ∀ (v_5 : Int32) (ls : Array Slot) (H : Heap) (locs : List Loc), v_5 = (if (f_X6_in v.toInt64 (0 : Int64) (20 : Int64)) = true then (0 : Int32) else (2 : Int32)) → lv_has ls 3 [(0, .ref (q 0)), (1, .int (nI b)), (2, .int v)] → va_P G classes [mdC q refusal isShot states length at_ good runs did, rwC (q 1) cI 129 now, rwC (q 4) cI 774 book].flatten H → va_D A [mdC q refusal isShot states length at_ good runs did, rwC (q 1) cI 129 now, rwC (q 4) cI 774 book].flatten → va_S A s.heap H locs → W p l e ({ frames := 2, cells := 0, slots := 0, locals := 45 } : Room) s m args below meth c H locs 0 0 QQ (F0 m 29 ls [.int v_5, .ref (q 0)]) := by
      intro v_5 ls H locs e_v_5 hl hP hD hS
      subst e_v_5
      exact hM_10 (if (f_X6_in v.toInt64 (0 : Int64) (20 : Int64)) = true then (0 : Int32) else (2 : Int32)) _ _ _ (if_pos c_1).symm (lv_sub hl [0, 1, 2] rfl) hP hD hS
    refine bv_ifne hx hb (f_X6_in v.toInt64 (0 : Int64) (20 : Int64)) 28 dX6_give_21 (by decide) (fun c_2 => ?_) (fun c_2 => ?_)
    · refine lv_iconst (v := 0) hx hb dX6_give_28 (by decide) ?_
      exact hM_6 (0 : Int32) _ _ _ (if_pos c_2).symm (lv_sub hl [0, 1, 2] rfl) hP hD hS
    · refine lv_iconst (v := 2) hx hb dX6_give_24 (by decide) ?_
      refine lv_goto (tgt := 29) hx hb dX6_give_25 (by decide) ?_
      exact hM_6 (2 : Int32) _ _ _ (if_neg c_2).symm (lv_sub hl [0, 1, 2] rfl) hP hD hS
  · refine lv_iconst (v := 1) hx hb dX6_give_8 (by decide) ?_
    refine lv_goto (tgt := 29) hx hb dX6_give_9 (by decide) ?_
    exact hM_10 (1 : Int32) _ _ _ (if_neg c_1).symm (lv_sub hl [0, 1, 2] rfl) hP hD hS
set_option maxRecDepth 100000 in
set_option maxHeartbeats 4000000 in
theorem k_X6_give_R (l : Launch) (G : va_G) (cI cS cL : ClassId) (q : Nat → Nat) (refusal : Int32) (isShot : Bool) (states : Nat) (length : Nat) (at_ : Nat) (good : Bool) (runs : Bool) (did : Int32) (now : Nat → Int32) (book : Nat → Int32) (b : Int32) (v : Int32) (hrf : ((f_X6_refused (if (f_X6_isBeam b) = true then (if (f_X6_in v.toInt64 (0 : Int64) (20 : Int64)) = true then (0 : Int32) else (2 : Int32)) else (1 : Int32))).1) = true) : Ct l G (tyl cI cS cL) yX6_give cX6_give 3 (some (Jvm.ClassFile.FieldType.int)) 2 45 0 0 [.ref (q 0), .int b, .int v] [mdC q refusal isShot states length at_ good runs did, rwC (q 1) cI 129 now, rwC (q 4) cI 774 book].flatten (f_X6_give_R b v) (fun u => some (.int u.1)) (fun u => [mdC q u.2 isShot states length at_ good runs did, rwC (q 1) cI 129 now, rwC (q 4) cI 774 book].flatten) := by
  refine Ct.of (by decide +kernel) (Nat.le_of_ble_eq_true rfl) ?_
  intro p e s m args below meth c A ls hx hb hr hml hw hown hlocks hin hK hN hP hD hS hA hl
  have hown : s.vm.findClass RX6 = some m.cls := hown
  have X : Cx p s m args c cX6_give 3 RX6 G (tyl cI cS cL) := ⟨hx, hb, hml, hown, hw, hK, hN⟩
  have hP : va_P G classes [mdC q refusal isShot states length at_ good runs did, rwC (q 1) cI 129 now, rwC (q 4) cI 774 book].flatten s.heap := hP
  have hl : lv_has ls 3 [(0, .ref (q 0)), (1, .int b), (2, .int v)] := hl
  generalize hQQ : MQ below _ args s 0 0 A = QQ
  refine lv_aload_n hx hb dX6_give_0 rfl (lv_at hl 0 rfl) ?_
  refine lv_iload_n hx hb dX6_give_1 rfl (lv_at hl 1 rfl) ?_
  refine ct_callS (As := [.int b]) (rest := [.ref (q 0)]) X hP hD hS hA (k_X6_isBeam l G cI cS cL  b) cq_X6_isBeam aw_987 ⟨Nat.le_of_ble_eq_true rfl, Nat.le_of_ble_eq_true rfl⟩ ([] : List Nat) (cs := []) rfl (by decide) (cs' := []) rfl rfl rfl hl.1 rfl (Nat.le_of_ble_eq_true rfl) dX6_give_2 ⟨Nat.zero_le _, Nat.zero_le _⟩ rfl (bs' := [mdC q refusal isShot states length at_ good runs did, rwC (q 1) cI 129 now, rwC (q 4) cI 774 book]) rfl (fun H locs hP hD hS => ?_)
  have hM_10 : ∀ (v_9 : Int32) (ls : Array Slot) (H : Heap) (locs : List Loc), v_9 = (if (f_X6_isBeam b) = true then (if (f_X6_in v.toInt64 (0 : Int64) (20 : Int64)) = true then (0 : Int32) else (2 : Int32)) else (1 : Int32)) → lv_has ls 3 [(0, .ref (q 0)), (1, .int b), (2, .int v)] → va_P G classes [mdC q refusal isShot states length at_ good runs did, rwC (q 1) cI 129 now, rwC (q 4) cI 774 book].flatten H → va_D A [mdC q refusal isShot states length at_ good runs did, rwC (q 1) cI 129 now, rwC (q 4) cI 774 book].flatten → va_S A s.heap H locs → W p l e ({ frames := 2, cells := 0, slots := 0, locals := 45 } : Room) s m args below meth c H locs 0 0 QQ (F0 m 29 ls [.int v_9, .ref (q 0)]) := by
    intro v_9 ls H locs e_v_9 hl hP hD hS
    subst e_v_9
    refine ct_callV (As := [.int (if (f_X6_isBeam b) = true then (if (f_X6_in v.toInt64 (0 : Int64) (20 : Int64)) = true then (0 : Int32) else (2 : Int32)) else (1 : Int32))]) (rest := []) X hP hD hS hA (k_X6_refused l G cI cS cL q refusal isShot states length at_ good runs did (if (f_X6_isBeam b) = true then (if (f_X6_in v.toInt64 (0 : Int64) (20 : Int64)) = true then (0 : Int32) else (2 : Int32)) else (1 : Int32))) cp_X6_refused aw_929 ⟨Nat.le_of_ble_eq_true rfl, Nat.le_of_ble_eq_true rfl⟩ [0] (cs := [mdC q refusal isShot states length at_ good runs did]) rfl (by decide) (cs' := [mdC q ((f_X6_refused (if (f_X6_isBeam b) = true then (if (f_X6_in v.toInt64 (0 : Int64) (20 : Int64)) = true then (0 : Int32) else (2 : Int32)) else (1 : Int32))).2) isShot states length at_ good runs did]) rfl rfl 4 rfl rfl (q0 := 0) rfl rfl hl.1 rfl (Nat.le_of_ble_eq_true rfl) dX6_give_29 ⟨Nat.zero_le _, Nat.zero_le _⟩ rfl (bs' := [mdC q ((f_X6_refused (if (f_X6_isBeam b) = true then (if (f_X6_in v.toInt64 (0 : Int64) (20 : Int64)) = true then (0 : Int32) else (2 : Int32)) else (1 : Int32))).2) isShot states length at_ good runs did, rwC (q 1) cI 129 now, rwC (q 4) cI 774 book]) rfl (fun H locs hP hD hS => ?_)
    refine bv_ifeq hx hb ((f_X6_refused (if (f_X6_isBeam b) = true then (if (f_X6_in v.toInt64 (0 : Int64) (20 : Int64)) = true then (0 : Int32) else (2 : Int32)) else (1 : Int32))).1) 37 dX6_give_32 (by decide) (fun c => absurd hrf c) (fun c_11 => ?_)
    refine lv_iconst (v := 0) hx hb dX6_give_35 (by decide) ?_
    rw [← hQQ]; exact W.iret hx hb hr (ct_end (F := (f_X6_give_R b v)) (u := ((0 : Int32), (f_X6_refused (if (f_X6_isBeam b) = true then (if (f_X6_in v.toInt64 (0 : Int64) (20 : Int64)) = true then (0 : Int32) else (2 : Int32)) else (1 : Int32))).2)) (rf := (fun u => some (.int u.1))) (wf := (fun u => [mdC q u.2 isShot states length at_ good runs did, rwC (q 1) cI 129 now, rwC (q 4) cI 774 book].flatten)) rfl rfl hP hD hS) hS.2.2 dX6_give_36
  refine bv_ifne hx hb (f_X6_isBeam b) 12 dX6_give_5 (by decide) (fun c_1 => ?_) (fun c_1 => ?_)
  · refine lv_iload_n hx hb dX6_give_12 rfl (lv_at hl 2 rfl) ?_
    refine lv_i2l hx hb dX6_give_13 rfl ?_
    refine lv_lconst (v := 0) hx hb dX6_give_14 (by decide) ?_
    refine lv_ldc2 hx hb hown (hw _ aw_1017) dX6_give_15 ?_
    refine ct_callS (As := [.long v.toInt64, .long (0 : Int64), .long (20 : Int64)]) (rest := [.ref (q 0)]) X hP hD hS hA (k_X6_in l G cI cS cL  v.toInt64 (0 : Int64) (20 : Int64)) cq_X6_in aw_926 ⟨Nat.le_of_ble_eq_true rfl, Nat.le_of_ble_eq_true rfl⟩ ([] : List Nat) (cs := []) rfl (by decide) (cs' := []) rfl rfl rfl hl.1 rfl (Nat.le_of_ble_eq_true rfl) dX6_give_18 ⟨Nat.zero_le _, Nat.zero_le _⟩ rfl (bs' := [mdC q refusal isShot states length at_ good runs did, rwC (q 1) cI 129 now, rwC (q 4) cI 774 book]) rfl (fun H locs hP hD hS => ?_)
    have hM_6 : ∀ (v_5 : Int32) (ls : Array Slot) (H : Heap) (locs : List Loc), v_5 = (if (f_X6_in v.toInt64 (0 : Int64) (20 : Int64)) = true then (0 : Int32) else (2 : Int32)) → lv_has ls 3 [(0, .ref (q 0)), (1, .int b), (2, .int v)] → va_P G classes [mdC q refusal isShot states length at_ good runs did, rwC (q 1) cI 129 now, rwC (q 4) cI 774 book].flatten H → va_D A [mdC q refusal isShot states length at_ good runs did, rwC (q 1) cI 129 now, rwC (q 4) cI 774 book].flatten → va_S A s.heap H locs → W p l e ({ frames := 2, cells := 0, slots := 0, locals := 45 } : Room) s m args below meth c H locs 0 0 QQ (F0 m 29 ls [.int v_5, .ref (q 0)]) := by
      intro v_5 ls H locs e_v_5 hl hP hD hS
      subst e_v_5
      exact hM_10 (if (f_X6_in v.toInt64 (0 : Int64) (20 : Int64)) = true then (0 : Int32) else (2 : Int32)) _ _ _ (if_pos c_1).symm (lv_sub hl [0, 1, 2] rfl) hP hD hS
    refine bv_ifne hx hb (f_X6_in v.toInt64 (0 : Int64) (20 : Int64)) 28 dX6_give_21 (by decide) (fun c_2 => ?_) (fun c_2 => ?_)
    · refine lv_iconst (v := 0) hx hb dX6_give_28 (by decide) ?_
      exact hM_6 (0 : Int32) _ _ _ (if_pos c_2).symm (lv_sub hl [0, 1, 2] rfl) hP hD hS
    · refine lv_iconst (v := 2) hx hb dX6_give_24 (by decide) ?_
      refine lv_goto (tgt := 29) hx hb dX6_give_25 (by decide) ?_
      exact hM_6 (2 : Int32) _ _ _ (if_neg c_2).symm (lv_sub hl [0, 1, 2] rfl) hP hD hS
  · refine lv_iconst (v := 1) hx hb dX6_give_8 (by decide) ?_
    refine lv_goto (tgt := 29) hx hb dX6_give_9 (by decide) ?_
    exact hM_10 (1 : Int32) _ _ _ (if_neg c_1).symm (lv_sub hl [0, 1, 2] rfl) hP hD hS
set_option maxRecDepth 100000 in
set_option maxHeartbeats 4000000 in
theorem k_X6_set (l : Launch) (G : va_G) (cI cS cL : ClassId) (q : Nat → Nat) (refusal : Int32) (isShot : Bool) (states : Nat) (length : Nat) (at_ : Nat) (good : Bool) (runs : Bool) (did : Int32) (now : Nat → Int32) (book : Nat → Int32) (k : Nat) (v : Int32) (hk : k < 3) (hst : states ≤ 6) (hrf : ¬ (((f_X6_refused (if (f_X6_in ((nI k).toInt64) (0 : Int64) (2 : Int64)) = true then (if (f_X6_isSet (nI k) v) = true then (0 : Int32) else (2 : Int32)) else (1 : Int32))).1) = true)) : Ct l G (tyl cI cS cL) yX6_set cX6_set 3 (some (Jvm.ClassFile.FieldType.int)) 2 46 0 0 [.ref (q 0), .int (nI k), .int v] [mdC q refusal isShot states length at_ good runs did, rwC (q 1) cI 129 now, rwC (q 4) cI 774 book].flatten (f_X6_set states now book k v) (fun u => some (.int u.1)) (fun u => [mdC q u.2.1 isShot u.2.2.1 length at_ good runs did, rwC (q 1) cI 129 u.2.2.2.1, rwC (q 4) cI 774 u.2.2.2.2].flatten) := by
  refine Ct.of (by decide +kernel) (Nat.le_of_ble_eq_true rfl) ?_
  intro p e s m args below meth c A ls hx hb hr hml hw hown hlocks hin hK hN hP hD hS hA hl
  have hown : s.vm.findClass RX6 = some m.cls := hown
  have X : Cx p s m args c cX6_set 3 RX6 G (tyl cI cS cL) := ⟨hx, hb, hml, hown, hw, hK, hN⟩
  have hP : va_P G classes [mdC q refusal isShot states length at_ good runs did, rwC (q 1) cI 129 now, rwC (q 4) cI 774 book].flatten s.heap := hP
  have hl : lv_has ls 3 [(0, .ref (q 0)), (1, .int (nI k)), (2, .int v)] := hl
  generalize hQQ : MQ below _ args s 0 0 A = QQ
  refine lv_aload_n hx hb dX6_set_0 rfl (lv_at hl 0 rfl) ?_
  refine lv_iload_n hx hb dX6_set_1 rfl (lv_at hl 1 rfl) ?_
  refine lv_i2l hx hb dX6_set_2 rfl ?_
  refine lv_lconst (v := 0) hx hb dX6_set_3 (by decide) ?_
  refine lv_ldc2 hx hb hown (hw _ aw_990) dX6_set_4 ?_
  refine ct_callS (As := [.long ((nI k).toInt64), .long (0 : Int64), .long (2 : Int64)]) (rest := [.ref (q 0)]) X hP hD hS hA (k_X6_in l G cI cS cL  ((nI k).toInt64) (0 : Int64) (2 : Int64)) cq_X6_in aw_926 ⟨Nat.le_of_ble_eq_true rfl, Nat.le_of_ble_eq_true rfl⟩ ([] : List Nat) (cs := []) rfl (by decide) (cs' := []) rfl rfl rfl hl.1 rfl (Nat.le_of_ble_eq_true rfl) dX6_set_7 ⟨Nat.zero_le _, Nat.zero_le _⟩ rfl (bs' := [mdC q refusal isShot states length at_ good runs did, rwC (q 1) cI 129 now, rwC (q 4) cI 774 book]) rfl (fun H locs hP hD hS => ?_)
  have hM_10 : ∀ (v_9 : Int32) (ls : Array Slot) (H : Heap) (locs : List Loc), v_9 = (if (f_X6_in ((nI k).toInt64) (0 : Int64) (2 : Int64)) = true then (if (f_X6_isSet (nI k) v) = true then (0 : Int32) else (2 : Int32)) else (1 : Int32)) → lv_has ls 3 [(0, .ref (q 0)), (1, .int (nI k)), (2, .int v)] → va_P G classes [mdC q refusal isShot states length at_ good runs did, rwC (q 1) cI 129 now, rwC (q 4) cI 774 book].flatten H → va_D A [mdC q refusal isShot states length at_ good runs did, rwC (q 1) cI 129 now, rwC (q 4) cI 774 book].flatten → va_S A s.heap H locs → W p l e ({ frames := 2, cells := 0, slots := 0, locals := 46 } : Room) s m args below meth c H locs 0 0 QQ (F0 m 30 ls [.int v_9, .ref (q 0)]) := by
    intro v_9 ls H locs e_v_9 hl hP hD hS
    subst e_v_9
    refine ct_callV (As := [.int (if (f_X6_in ((nI k).toInt64) (0 : Int64) (2 : Int64)) = true then (if (f_X6_isSet (nI k) v) = true then (0 : Int32) else (2 : Int32)) else (1 : Int32))]) (rest := []) X hP hD hS hA (k_X6_refused l G cI cS cL q refusal isShot states length at_ good runs did (if (f_X6_in ((nI k).toInt64) (0 : Int64) (2 : Int64)) = true then (if (f_X6_isSet (nI k) v) = true then (0 : Int32) else (2 : Int32)) else (1 : Int32))) cp_X6_refused aw_929 ⟨Nat.le_of_ble_eq_true rfl, Nat.le_of_ble_eq_true rfl⟩ [0] (cs := [mdC q refusal isShot states length at_ good runs did]) rfl (by decide) (cs' := [mdC q ((f_X6_refused (if (f_X6_in ((nI k).toInt64) (0 : Int64) (2 : Int64)) = true then (if (f_X6_isSet (nI k) v) = true then (0 : Int32) else (2 : Int32)) else (1 : Int32))).2) isShot states length at_ good runs did]) rfl rfl 4 rfl rfl (q0 := 0) rfl rfl hl.1 rfl (Nat.le_of_ble_eq_true rfl) dX6_set_30 ⟨Nat.zero_le _, Nat.zero_le _⟩ rfl (bs' := [mdC q ((f_X6_refused (if (f_X6_in ((nI k).toInt64) (0 : Int64) (2 : Int64)) = true then (if (f_X6_isSet (nI k) v) = true then (0 : Int32) else (2 : Int32)) else (1 : Int32))).2) isShot states length at_ good runs did, rwC (q 1) cI 129 now, rwC (q 4) cI 774 book]) rfl (fun H locs hP hD hS => ?_)
    refine bv_ifeq hx hb ((f_X6_refused (if (f_X6_in ((nI k).toInt64) (0 : Int64) (2 : Int64)) = true then (if (f_X6_isSet (nI k) v) = true then (0 : Int32) else (2 : Int32)) else (1 : Int32))).1) 38 dX6_set_33 (by decide) (fun c_11 => ?_) (fun c => absurd c hrf)
    refine lv_aload_n hx hb dX6_set_38 rfl (lv_at hl 0 rfl) ?_
    refine ct_callV (As := []) (rest := []) X hP hD hS hA (k_X6_save l G cI cS cL q ((f_X6_refused (if (f_X6_in ((nI k).toInt64) (0 : Int64) (2 : Int64)) = true then (if (f_X6_isSet (nI k) v) = true then (0 : Int32) else (2 : Int32)) else (1 : Int32))).2) isShot states length at_ good runs did now book hst) cp_X6_save aw_933 ⟨Nat.le_of_ble_eq_true rfl, Nat.le_of_ble_eq_true rfl⟩ [0, 1, 2] (cs := [mdC q ((f_X6_refused (if (f_X6_in ((nI k).toInt64) (0 : Int64) (2 : Int64)) = true then (if (f_X6_isSet (nI k) v) = true then (0 : Int32) else (2 : Int32)) else (1 : Int32))).2) isShot states length at_ good runs did, rwC (q 1) cI 129 now, rwC (q 4) cI 774 book]) rfl (by decide) (cs' := [mdC q ((f_X6_refused (if (f_X6_in ((nI k).toInt64) (0 : Int64) (2 : Int64)) = true then (if (f_X6_isSet (nI k) v) = true then (0 : Int32) else (2 : Int32)) else (1 : Int32))).2) isShot ((f_X6_save states now book).1) length at_ good runs did, rwC (q 1) cI 129 now, rwC (q 4) cI 774 ((f_X6_save states now book).2)]) rfl rfl 4 rfl rfl (q0 := 0) rfl rfl hl.1 rfl (Nat.le_of_ble_eq_true rfl) dX6_set_39 ⟨Nat.zero_le _, Nat.zero_le _⟩ rfl (bs' := [mdC q ((f_X6_refused (if (f_X6_in ((nI k).toInt64) (0 : Int64) (2 : Int64)) = true then (if (f_X6_isSet (nI k) v) = true then (0 : Int32) else (2 : Int32)) else (1 : Int32))).2) isShot ((f_X6_save states now book).1) length at_ good runs did, rwC (q 1) cI 129 now, rwC (q 4) cI 774 ((f_X6_save states now book).2)]) rfl (fun H locs hP hD hS => ?_)
    refine lv_aload_n hx hb dX6_set_42 rfl (lv_at hl 0 rfl) ?_
    refine lv_iconst (v := 3) hx hb dX6_set_43 (by decide) ?_
    refine lv_iload_n hx hb dX6_set_44 rfl (lv_at hl 1 rfl) ?_
    refine nv_iadd hx hb 3 k dX6_set_45 ?_
    refine lv_iload_n hx hb dX6_set_46 rfl (lv_at hl 2 rfl) ?_
    refine ct_callV (As := [.int (nI (3 + k)), .int v]) (rest := []) X hP hD hS hA (k_X6_put l G cI cS cL q ((f_X6_refused (if (f_X6_in ((nI k).toInt64) (0 : Int64) (2 : Int64)) = true then (if (f_X6_isSet (nI k) v) = true then (0 : Int32) else (2 : Int32)) else (1 : Int32))).2) isShot ((f_X6_save states now book).1) length at_ good runs did now (3 + k) v (by omega)) cp_X6_put aw_1009 ⟨Nat.le_of_ble_eq_true rfl, Nat.le_of_ble_eq_true rfl⟩ [0, 1] (cs := [mdC q ((f_X6_refused (if (f_X6_in ((nI k).toInt64) (0 : Int64) (2 : Int64)) = true then (if (f_X6_isSet (nI k) v) = true then (0 : Int32) else (2 : Int32)) else (1 : Int32))).2) isShot ((f_X6_save states now book).1) length at_ good runs did, rwC (q 1) cI 129 now]) rfl (by decide) (cs' := [mdC q ((f_X6_refused (if (f_X6_in ((nI k).toInt64) (0 : Int64) (2 : Int64)) = true then (if (f_X6_isSet (nI k) v) = true then (0 : Int32) else (2 : Int32)) else (1 : Int32))).2) isShot ((f_X6_save states now book).1) length at_ good runs did, rwC (q 1) cI 129 ((f_X6_put now (3 + k) v).2)]) rfl rfl 4 rfl rfl (q0 := 0) rfl rfl hl.1 rfl (Nat.le_of_ble_eq_true rfl) dX6_set_47 ⟨Nat.zero_le _, Nat.zero_le _⟩ rfl (bs' := [mdC q ((f_X6_refused (if (f_X6_in ((nI k).toInt64) (0 : Int64) (2 : Int64)) = true then (if (f_X6_isSet (nI k) v) = true then (0 : Int32) else (2 : Int32)) else (1 : Int32))).2) isShot ((f_X6_save states now book).1) length at_ good runs did, rwC (q 1) cI 129 ((f_X6_put now (3 + k) v).2), rwC (q 4) cI 774 ((f_X6_save states now book).2)]) rfl (fun H locs hP hD hS => ?_)
    rw [← hQQ]; exact W.iret hx hb hr (ct_end (F := (f_X6_set states now book k v)) (u := ((f_X6_put now (3 + k) v).1, (f_X6_refused (if (f_X6_in ((nI k).toInt64) (0 : Int64) (2 : Int64)) = true then (if (f_X6_isSet (nI k) v) = true then (0 : Int32) else (2 : Int32)) else (1 : Int32))).2, (f_X6_save states now book).1, (f_X6_put now (3 + k) v).2, (f_X6_save states now book).2)) (rf := (fun u => some (.int u.1))) (wf := (fun u => [mdC q u.2.1 isShot u.2.2.1 length at_ good runs did, rwC (q 1) cI 129 u.2.2.2.1, rwC (q 4) cI 774 u.2.2.2.2].flatten)) rfl rfl hP hD hS) hS.2.2 dX6_set_50
  refine bv_ifne hx hb (f_X6_in ((nI k).toInt64) (0 : Int64) (2 : Int64)) 17 dX6_set_10 (by decide) (fun c_1 => ?_) (fun c_1 => ?_)
  · refine lv_iload_n hx hb dX6_set_17 rfl (lv_at hl 1 rfl) ?_
    refine lv_iload_n hx hb dX6_set_18 rfl (lv_at hl 2 rfl) ?_
    refine ct_callS (As := [.int (nI k), .int v]) (rest := [.ref (q 0)]) X hP hD hS hA (k_X6_isSet l G cI cS cL  (nI k) v) cq_X6_isSet aw_1022 ⟨Nat.le_of_ble_eq_true rfl, Nat.le_of_ble_eq_true rfl⟩ ([] : List Nat) (cs := []) rfl (by decide) (cs' := []) rfl rfl rfl hl.1 rfl (Nat.le_of_ble_eq_true rfl) dX6_set_19 ⟨Nat.zero_le _, Nat.zero_le _⟩ rfl (bs' := [mdC q refusal isShot states length at_ good runs did, rwC (q 1) cI 129 now, rwC (q 4) cI 774 book]) rfl (fun H locs hP hD hS => ?_)
    have hM_6 : ∀ (v_5 : Int32) (ls : Array Slot) (H : Heap) (locs : List Loc), v_5 = (if (f_X6_isSet (nI k) v) = true then (0 : Int32) else (2 : Int32)) → lv_has ls 3 [(0, .ref (q 0)), (1, .int (nI k)), (2, .int v)] → va_P G classes [mdC q refusal isShot states length at_ good runs did, rwC (q 1) cI 129 now, rwC (q 4) cI 774 book].flatten H → va_D A [mdC q refusal isShot states length at_ good runs did, rwC (q 1) cI 129 now, rwC (q 4) cI 774 book].flatten → va_S A s.heap H locs → W p l e ({ frames := 2, cells := 0, slots := 0, locals := 46 } : Room) s m args below meth c H locs 0 0 QQ (F0 m 30 ls [.int v_5, .ref (q 0)]) := by
      intro v_5 ls H locs e_v_5 hl hP hD hS
      subst e_v_5
      exact hM_10 (if (f_X6_isSet (nI k) v) = true then (0 : Int32) else (2 : Int32)) _ _ _ (if_pos c_1).symm (lv_sub hl [0, 1, 2] rfl) hP hD hS
    refine bv_ifne hx hb (f_X6_isSet (nI k) v) 29 dX6_set_22 (by decide) (fun c_2 => ?_) (fun c_2 => ?_)
    · refine lv_iconst (v := 0) hx hb dX6_set_29 (by decide) ?_
      exact hM_6 (0 : Int32) _ _ _ (if_pos c_2).symm (lv_sub hl [0, 1, 2] rfl) hP hD hS
    · refine lv_iconst (v := 2) hx hb dX6_set_25 (by decide) ?_
      refine lv_goto (tgt := 30) hx hb dX6_set_26 (by decide) ?_
      exact hM_6 (2 : Int32) _ _ _ (if_neg c_2).symm (lv_sub hl [0, 1, 2] rfl) hP hD hS
  · refine lv_iconst (v := 1) hx hb dX6_set_13 (by decide) ?_
    refine lv_goto (tgt := 30) hx hb dX6_set_14 (by decide) ?_
    exact hM_10 (1 : Int32) _ _ _ (if_neg c_1).symm (lv_sub hl [0, 1, 2] rfl) hP hD hS
set_option maxRecDepth 100000 in
set_option maxHeartbeats 4000000 in
theorem k_X6_set_R (l : Launch) (G : va_G) (cI cS cL : ClassId) (q : Nat → Nat) (refusal : Int32) (isShot : Bool) (states : Nat) (length : Nat) (at_ : Nat) (good : Bool) (runs : Bool) (did : Int32) (now : Nat → Int32) (book : Nat → Int32) (k : Int32) (v : Int32) (hrf : ((f_X6_refused (if (f_X6_in k.toInt64 (0 : Int64) (2 : Int64)) = true then (if (f_X6_isSet k v) = true then (0 : Int32) else (2 : Int32)) else (1 : Int32))).1) = true) : Ct l G (tyl cI cS cL) yX6_set cX6_set 3 (some (Jvm.ClassFile.FieldType.int)) 2 46 0 0 [.ref (q 0), .int k, .int v] [mdC q refusal isShot states length at_ good runs did, rwC (q 1) cI 129 now, rwC (q 4) cI 774 book].flatten (f_X6_set_R k v) (fun u => some (.int u.1)) (fun u => [mdC q u.2 isShot states length at_ good runs did, rwC (q 1) cI 129 now, rwC (q 4) cI 774 book].flatten) := by
  refine Ct.of (by decide +kernel) (Nat.le_of_ble_eq_true rfl) ?_
  intro p e s m args below meth c A ls hx hb hr hml hw hown hlocks hin hK hN hP hD hS hA hl
  have hown : s.vm.findClass RX6 = some m.cls := hown
  have X : Cx p s m args c cX6_set 3 RX6 G (tyl cI cS cL) := ⟨hx, hb, hml, hown, hw, hK, hN⟩
  have hP : va_P G classes [mdC q refusal isShot states length at_ good runs did, rwC (q 1) cI 129 now, rwC (q 4) cI 774 book].flatten s.heap := hP
  have hl : lv_has ls 3 [(0, .ref (q 0)), (1, .int k), (2, .int v)] := hl
  generalize hQQ : MQ below _ args s 0 0 A = QQ
  refine lv_aload_n hx hb dX6_set_0 rfl (lv_at hl 0 rfl) ?_
  refine lv_iload_n hx hb dX6_set_1 rfl (lv_at hl 1 rfl) ?_
  refine lv_i2l hx hb dX6_set_2 rfl ?_
  refine lv_lconst (v := 0) hx hb dX6_set_3 (by decide) ?_
  refine lv_ldc2 hx hb hown (hw _ aw_990) dX6_set_4 ?_
  refine ct_callS (As := [.long k.toInt64, .long (0 : Int64), .long (2 : Int64)]) (rest := [.ref (q 0)]) X hP hD hS hA (k_X6_in l G cI cS cL  k.toInt64 (0 : Int64) (2 : Int64)) cq_X6_in aw_926 ⟨Nat.le_of_ble_eq_true rfl, Nat.le_of_ble_eq_true rfl⟩ ([] : List Nat) (cs := []) rfl (by decide) (cs' := []) rfl rfl rfl hl.1 rfl (Nat.le_of_ble_eq_true rfl) dX6_set_7 ⟨Nat.zero_le _, Nat.zero_le _⟩ rfl (bs' := [mdC q refusal isShot states length at_ good runs did, rwC (q 1) cI 129 now, rwC (q 4) cI 774 book]) rfl (fun H locs hP hD hS => ?_)
  have hM_10 : ∀ (v_9 : Int32) (ls : Array Slot) (H : Heap) (locs : List Loc), v_9 = (if (f_X6_in k.toInt64 (0 : Int64) (2 : Int64)) = true then (if (f_X6_isSet k v) = true then (0 : Int32) else (2 : Int32)) else (1 : Int32)) → lv_has ls 3 [(0, .ref (q 0)), (1, .int k), (2, .int v)] → va_P G classes [mdC q refusal isShot states length at_ good runs did, rwC (q 1) cI 129 now, rwC (q 4) cI 774 book].flatten H → va_D A [mdC q refusal isShot states length at_ good runs did, rwC (q 1) cI 129 now, rwC (q 4) cI 774 book].flatten → va_S A s.heap H locs → W p l e ({ frames := 2, cells := 0, slots := 0, locals := 46 } : Room) s m args below meth c H locs 0 0 QQ (F0 m 30 ls [.int v_9, .ref (q 0)]) := by
    intro v_9 ls H locs e_v_9 hl hP hD hS
    subst e_v_9
    refine ct_callV (As := [.int (if (f_X6_in k.toInt64 (0 : Int64) (2 : Int64)) = true then (if (f_X6_isSet k v) = true then (0 : Int32) else (2 : Int32)) else (1 : Int32))]) (rest := []) X hP hD hS hA (k_X6_refused l G cI cS cL q refusal isShot states length at_ good runs did (if (f_X6_in k.toInt64 (0 : Int64) (2 : Int64)) = true then (if (f_X6_isSet k v) = true then (0 : Int32) else (2 : Int32)) else (1 : Int32))) cp_X6_refused aw_929 ⟨Nat.le_of_ble_eq_true rfl, Nat.le_of_ble_eq_true rfl⟩ [0] (cs := [mdC q refusal isShot states length at_ good runs did]) rfl (by decide) (cs' := [mdC q ((f_X6_refused (if (f_X6_in k.toInt64 (0 : Int64) (2 : Int64)) = true then (if (f_X6_isSet k v) = true then (0 : Int32) else (2 : Int32)) else (1 : Int32))).2) isShot states length at_ good runs did]) rfl rfl 4 rfl rfl (q0 := 0) rfl rfl hl.1 rfl (Nat.le_of_ble_eq_true rfl) dX6_set_30 ⟨Nat.zero_le _, Nat.zero_le _⟩ rfl (bs' := [mdC q ((f_X6_refused (if (f_X6_in k.toInt64 (0 : Int64) (2 : Int64)) = true then (if (f_X6_isSet k v) = true then (0 : Int32) else (2 : Int32)) else (1 : Int32))).2) isShot states length at_ good runs did, rwC (q 1) cI 129 now, rwC (q 4) cI 774 book]) rfl (fun H locs hP hD hS => ?_)
    refine bv_ifeq hx hb ((f_X6_refused (if (f_X6_in k.toInt64 (0 : Int64) (2 : Int64)) = true then (if (f_X6_isSet k v) = true then (0 : Int32) else (2 : Int32)) else (1 : Int32))).1) 38 dX6_set_33 (by decide) (fun c => absurd hrf c) (fun c_11 => ?_)
    refine lv_iconst (v := 0) hx hb dX6_set_36 (by decide) ?_
    rw [← hQQ]; exact W.iret hx hb hr (ct_end (F := (f_X6_set_R k v)) (u := ((0 : Int32), (f_X6_refused (if (f_X6_in k.toInt64 (0 : Int64) (2 : Int64)) = true then (if (f_X6_isSet k v) = true then (0 : Int32) else (2 : Int32)) else (1 : Int32))).2)) (rf := (fun u => some (.int u.1))) (wf := (fun u => [mdC q u.2 isShot states length at_ good runs did, rwC (q 1) cI 129 now, rwC (q 4) cI 774 book].flatten)) rfl rfl hP hD hS) hS.2.2 dX6_set_37
  refine bv_ifne hx hb (f_X6_in k.toInt64 (0 : Int64) (2 : Int64)) 17 dX6_set_10 (by decide) (fun c_1 => ?_) (fun c_1 => ?_)
  · refine lv_iload_n hx hb dX6_set_17 rfl (lv_at hl 1 rfl) ?_
    refine lv_iload_n hx hb dX6_set_18 rfl (lv_at hl 2 rfl) ?_
    refine ct_callS (As := [.int k, .int v]) (rest := [.ref (q 0)]) X hP hD hS hA (k_X6_isSet l G cI cS cL  k v) cq_X6_isSet aw_1022 ⟨Nat.le_of_ble_eq_true rfl, Nat.le_of_ble_eq_true rfl⟩ ([] : List Nat) (cs := []) rfl (by decide) (cs' := []) rfl rfl rfl hl.1 rfl (Nat.le_of_ble_eq_true rfl) dX6_set_19 ⟨Nat.zero_le _, Nat.zero_le _⟩ rfl (bs' := [mdC q refusal isShot states length at_ good runs did, rwC (q 1) cI 129 now, rwC (q 4) cI 774 book]) rfl (fun H locs hP hD hS => ?_)
    have hM_6 : ∀ (v_5 : Int32) (ls : Array Slot) (H : Heap) (locs : List Loc), v_5 = (if (f_X6_isSet k v) = true then (0 : Int32) else (2 : Int32)) → lv_has ls 3 [(0, .ref (q 0)), (1, .int k), (2, .int v)] → va_P G classes [mdC q refusal isShot states length at_ good runs did, rwC (q 1) cI 129 now, rwC (q 4) cI 774 book].flatten H → va_D A [mdC q refusal isShot states length at_ good runs did, rwC (q 1) cI 129 now, rwC (q 4) cI 774 book].flatten → va_S A s.heap H locs → W p l e ({ frames := 2, cells := 0, slots := 0, locals := 46 } : Room) s m args below meth c H locs 0 0 QQ (F0 m 30 ls [.int v_5, .ref (q 0)]) := by
      intro v_5 ls H locs e_v_5 hl hP hD hS
      subst e_v_5
      exact hM_10 (if (f_X6_isSet k v) = true then (0 : Int32) else (2 : Int32)) _ _ _ (if_pos c_1).symm (lv_sub hl [0, 1, 2] rfl) hP hD hS
    refine bv_ifne hx hb (f_X6_isSet k v) 29 dX6_set_22 (by decide) (fun c_2 => ?_) (fun c_2 => ?_)
    · refine lv_iconst (v := 0) hx hb dX6_set_29 (by decide) ?_
      exact hM_6 (0 : Int32) _ _ _ (if_pos c_2).symm (lv_sub hl [0, 1, 2] rfl) hP hD hS
    · refine lv_iconst (v := 2) hx hb dX6_set_25 (by decide) ?_
      refine lv_goto (tgt := 30) hx hb dX6_set_26 (by decide) ?_
      exact hM_6 (2 : Int32) _ _ _ (if_neg c_2).symm (lv_sub hl [0, 1, 2] rfl) hP hD hS
  · refine lv_iconst (v := 1) hx hb dX6_set_13 (by decide) ?_
    refine lv_goto (tgt := 30) hx hb dX6_set_14 (by decide) ?_
    exact hM_10 (1 : Int32) _ _ _ (if_neg c_1).symm (lv_sub hl [0, 1, 2] rfl) hP hD hS
set_option maxRecDepth 100000 in
set_option maxHeartbeats 4000000 in
theorem k_X6_keep (l : Launch) (G : va_G) (cI cS cL : ClassId) (q : Nat → Nat) (refusal : Int32) (isShot : Bool) (states : Nat) (length : Nat) (at_ : Nat) (good : Bool) (runs : Bool) (did : Int32) (now : Nat → Int32) (shot : Nat → Int32) : Ct l G (tyl cI cS cL) yX6_keep cX6_keep 1 (some (Jvm.ClassFile.FieldType.int)) 1 22 0 0 [.ref (q 0)] [mdC q refusal isShot states length at_ good runs did, rwC (q 1) cI 129 now, rwC (q 3) cI 129 shot].flatten (f_X6_keep now) (fun u => some (.int u.1)) (fun u => [mdC q u.2.1 u.2.2.1 states length at_ good runs did, rwC (q 1) cI 129 now, rwC (q 3) cI 129 u.2.2.2].flatten) := by
  refine Ct.of (by decide +kernel) (Nat.le_of_ble_eq_true rfl) ?_
  intro p e s m args below meth c A ls hx hb hr hml hw hown hlocks hin hK hN hP hD hS hA hl
  have hown : s.vm.findClass RX6 = some m.cls := hown
  have X : Cx p s m args c cX6_keep 1 RX6 G (tyl cI cS cL) := ⟨hx, hb, hml, hown, hw, hK, hN⟩
  have hP : va_P G classes [mdC q refusal isShot states length at_ good runs did, rwC (q 1) cI 129 now, rwC (q 3) cI 129 shot].flatten s.heap := hP
  have hl : lv_has ls 1 [(0, .ref (q 0))] := hl
  generalize hQQ : MQ below _ args s 0 0 A = QQ
  refine lv_aload_n hx hb dX6_keep_0 rfl (lv_at hl 0 rfl) ?_
  refine lv_iconst (v := 0) hx hb dX6_keep_1 (by decide) ?_
  refine nv_put (D := G) (ci := 4) (ty := .int) (v := .int (0 : Int32)) (C := RX6) (T := TX6) (N := 15) hx hb hw in_X6 tyX6 tyX6_ok nmX6 hown hK hP hD hS 0 rfl rfl 0 (by decide) (hw _ aw_871) (fun _ h9 => h9) rfl (by decide +kernel) rfl rfl (Nat.le_of_ble_eq_true rfl) dX6_keep_2 (ws' := [mdC q (0 : Int32) isShot states length at_ good runs did, rwC (q 1) cI 129 now, rwC (q 3) cI 129 shot].flatten) rfl (fun H locs hP hD hS => ?_)
  refine lv_aload_n hx hb dX6_keep_5 rfl (lv_at hl 0 rfl) ?_
  refine va_get (D := G) (ci := 4) (C := RX6) (T := TX6) (N := 15) hx hb hw in_X6 hown hK hP 0 rfl rfl 1 (by decide) (hw _ aw_872) (fun _ h9 => h9) rfl dX6_keep_6 ?_
  refine lv_aload_n hx hb dX6_keep_9 rfl (lv_at hl 0 rfl) ?_
  refine va_get (D := G) (ci := 4) (C := RX6) (T := TX6) (N := 15) hx hb hw in_X6 hown hK hP 0 rfl rfl 3 (by decide) (hw _ aw_874) (fun _ h9 => h9) rfl dX6_keep_10 ?_
  refine ct_callS (As := [.ref (q 1), .ref (q 3)]) (rest := []) X hP hD hS hA (k_X6_copy l G cI cS cL (q 1) (q 3) now shot) cq_X6_copy aw_1074 ⟨Nat.le_of_ble_eq_true rfl, Nat.le_of_ble_eq_true rfl⟩ [1, 2] (cs := [rwC (q 1) cI 129 now, rwC (q 3) cI 129 shot]) rfl (by decide) (cs' := [rwC (q 1) cI 129 now, rwC (q 3) cI 129 now]) rfl rfl rfl hl.1 rfl (Nat.le_of_ble_eq_true rfl) dX6_keep_13 ⟨Nat.zero_le _, Nat.zero_le _⟩ rfl (bs' := [mdC q (0 : Int32) isShot states length at_ good runs did, rwC (q 1) cI 129 now, rwC (q 3) cI 129 now]) rfl (fun H locs hP hD hS => ?_)
  refine lv_aload_n hx hb dX6_keep_16 rfl (lv_at hl 0 rfl) ?_
  refine lv_iconst (v := 1) hx hb dX6_keep_17 (by decide) ?_
  refine nv_put (D := G) (ci := 4) (ty := .boolean) (v := .int (bI true)) (C := RX6) (T := TX6) (N := 15) hx hb hw in_X6 tyX6 tyX6_ok nmX6 hown hK hP hD hS 0 rfl rfl 4 (by decide) (hw _ aw_875) (fun _ h9 => h9) rfl (by decide +kernel) (nar_b _) (fit_b _) (Nat.le_of_ble_eq_true rfl) dX6_keep_18 (ws' := [mdC q (0 : Int32) true states length at_ good runs did, rwC (q 1) cI 129 now, rwC (q 3) cI 129 now].flatten) rfl (fun H locs hP hD hS => ?_)
  refine lv_aload_n hx hb dX6_keep_21 rfl (lv_at hl 0 rfl) ?_
  refine va_get (D := G) (ci := 4) (C := RX6) (T := TX6) (N := 15) hx hb hw in_X6 hown hK hP 0 rfl rfl 1 (by decide) (hw _ aw_872) (fun _ h9 => h9) rfl dX6_keep_22 ?_
  refine lv_bipush (v := 126) hx hb dX6_keep_25 (by decide) ?_
  refine nv_iald hx hb hK hP 1 0 rfl rfl 126 (by omega) (by decide) dX6_keep_27 ?_
  rw [← hQQ]; exact W.iret hx hb hr (ct_end (F := (f_X6_keep now)) (u := ((now 126), (0 : Int32), true, now)) (rf := (fun u => some (.int u.1))) (wf := (fun u => [mdC q u.2.1 u.2.2.1 states length at_ good runs did, rwC (q 1) cI 129 now, rwC (q 3) cI 129 u.2.2.2].flatten)) rfl rfl hP hD hS) hS.2.2 dX6_keep_28
set_option maxRecDepth 100000 in
set_option maxHeartbeats 4000000 in
theorem k_X6_goBack (l : Launch) (G : va_G) (cI cS cL : ClassId) (q : Nat → Nat) (refusal : Int32) (isShot : Bool) (states : Nat) (length : Nat) (at_ : Nat) (good : Bool) (runs : Bool) (did : Int32) (now : Nat → Int32) (shot : Nat → Int32) (book : Nat → Int32) (hst : states ≤ 6) (hrf : ¬ (((f_X6_refused (bI (if isShot = true then false else true))).1) = true)) : Ct l G (tyl cI cS cL) yX6_goBack cX6_goBack 1 (some (Jvm.ClassFile.FieldType.int)) 1 22 0 0 [.ref (q 0)] [mdC q refusal isShot states length at_ good runs did, rwC (q 1) cI 129 now, rwC (q 3) cI 129 shot, rwC (q 4) cI 774 book].flatten (f_X6_goBack isShot states now shot book) (fun u => some (.int u.1)) (fun u => [mdC q u.2.1 isShot u.2.2.1 length at_ good runs did, rwC (q 1) cI 129 u.2.2.2.1, rwC (q 3) cI 129 shot, rwC (q 4) cI 774 u.2.2.2.2].flatten) := by
  refine Ct.of (by decide +kernel) (Nat.le_of_ble_eq_true rfl) ?_
  intro p e s m args below meth c A ls hx hb hr hml hw hown hlocks hin hK hN hP hD hS hA hl
  have hown : s.vm.findClass RX6 = some m.cls := hown
  have X : Cx p s m args c cX6_goBack 1 RX6 G (tyl cI cS cL) := ⟨hx, hb, hml, hown, hw, hK, hN⟩
  have hP : va_P G classes [mdC q refusal isShot states length at_ good runs did, rwC (q 1) cI 129 now, rwC (q 3) cI 129 shot, rwC (q 4) cI 774 book].flatten s.heap := hP
  have hl : lv_has ls 1 [(0, .ref (q 0))] := hl
  generalize hQQ : MQ below _ args s 0 0 A = QQ
  refine lv_aload_n hx hb dX6_goBack_0 rfl (lv_at hl 0 rfl) ?_
  refine lv_aload_n hx hb dX6_goBack_1 rfl (lv_at hl 0 rfl) ?_
  refine va_get (D := G) (ci := 4) (C := RX6) (T := TX6) (N := 15) hx hb hw in_X6 hown hK hP 0 rfl rfl 4 (by decide) (hw _ aw_875) (fun _ h9 => h9) rfl dX6_goBack_2 ?_
  have hM_5 : ∀ (v_4 : Bool) (ls : Array Slot) (H : Heap) (locs : List Loc), v_4 = (if isShot = true then false else true) → lv_has ls 1 [(0, .ref (q 0))] → va_P G classes [mdC q refusal isShot states length at_ good runs did, rwC (q 1) cI 129 now, rwC (q 3) cI 129 shot, rwC (q 4) cI 774 book].flatten H → va_D A [mdC q refusal isShot states length at_ good runs did, rwC (q 1) cI 129 now, rwC (q 3) cI 129 shot, rwC (q 4) cI 774 book].flatten → va_S A s.heap H locs → W p l e ({ frames := 1, cells := 0, slots := 0, locals := 22 } : Room) s m args below meth c H locs 0 0 QQ (F0 m 13 ls [.int (bI v_4), .ref (q 0)]) := by
    intro v_4 ls H locs e_v_4 hl hP hD hS
    subst e_v_4
    refine ct_callV (As := [.int (bI (if isShot = true then false else true))]) (rest := []) X hP hD hS hA (k_X6_refused l G cI cS cL q refusal isShot states length at_ good runs did (bI (if isShot = true then false else true))) cp_X6_refused aw_929 ⟨Nat.le_of_ble_eq_true rfl, Nat.le_of_ble_eq_true rfl⟩ [0] (cs := [mdC q refusal isShot states length at_ good runs did]) rfl (by decide) (cs' := [mdC q ((f_X6_refused (bI (if isShot = true then false else true))).2) isShot states length at_ good runs did]) rfl rfl 4 rfl rfl (q0 := 0) rfl rfl hl.1 rfl (Nat.le_of_ble_eq_true rfl) dX6_goBack_13 ⟨Nat.zero_le _, Nat.zero_le _⟩ rfl (bs' := [mdC q ((f_X6_refused (bI (if isShot = true then false else true))).2) isShot states length at_ good runs did, rwC (q 1) cI 129 now, rwC (q 3) cI 129 shot, rwC (q 4) cI 774 book]) rfl (fun H locs hP hD hS => ?_)
    refine bv_ifeq hx hb ((f_X6_refused (bI (if isShot = true then false else true))).1) 21 dX6_goBack_16 (by decide) (fun c_6 => ?_) (fun c => absurd c hrf)
    refine lv_aload_n hx hb dX6_goBack_21 rfl (lv_at hl 0 rfl) ?_
    refine ct_callV (As := []) (rest := []) X hP hD hS hA (k_X6_save l G cI cS cL q ((f_X6_refused (bI (if isShot = true then false else true))).2) isShot states length at_ good runs did now book hst) cp_X6_save aw_933 ⟨Nat.le_of_ble_eq_true rfl, Nat.le_of_ble_eq_true rfl⟩ [0, 1, 3] (cs := [mdC q ((f_X6_refused (bI (if isShot = true then false else true))).2) isShot states length at_ good runs did, rwC (q 1) cI 129 now, rwC (q 4) cI 774 book]) rfl (by decide) (cs' := [mdC q ((f_X6_refused (bI (if isShot = true then false else true))).2) isShot ((f_X6_save states now book).1) length at_ good runs did, rwC (q 1) cI 129 now, rwC (q 4) cI 774 ((f_X6_save states now book).2)]) rfl rfl 4 rfl rfl (q0 := 0) rfl rfl hl.1 rfl (Nat.le_of_ble_eq_true rfl) dX6_goBack_22 ⟨Nat.zero_le _, Nat.zero_le _⟩ rfl (bs' := [mdC q ((f_X6_refused (bI (if isShot = true then false else true))).2) isShot ((f_X6_save states now book).1) length at_ good runs did, rwC (q 1) cI 129 now, rwC (q 3) cI 129 shot, rwC (q 4) cI 774 ((f_X6_save states now book).2)]) rfl (fun H locs hP hD hS => ?_)
    refine lv_aload_n hx hb dX6_goBack_25 rfl (lv_at hl 0 rfl) ?_
    refine va_get (D := G) (ci := 4) (C := RX6) (T := TX6) (N := 15) hx hb hw in_X6 hown hK hP 0 rfl rfl 3 (by decide) (hw _ aw_874) (fun _ h9 => h9) rfl dX6_goBack_26 ?_
    refine lv_aload_n hx hb dX6_goBack_29 rfl (lv_at hl 0 rfl) ?_
    refine va_get (D := G) (ci := 4) (C := RX6) (T := TX6) (N := 15) hx hb hw in_X6 hown hK hP 0 rfl rfl 1 (by decide) (hw _ aw_872) (fun _ h9 => h9) rfl dX6_goBack_30 ?_
    refine ct_callS (As := [.ref (q 3), .ref (q 1)]) (rest := []) X hP hD hS hA (k_X6_copy l G cI cS cL (q 3) (q 1) shot now) cq_X6_copy aw_1074 ⟨Nat.le_of_ble_eq_true rfl, Nat.le_of_ble_eq_true rfl⟩ [2, 1] (cs := [rwC (q 3) cI 129 shot, rwC (q 1) cI 129 now]) rfl (by decide) (cs' := [rwC (q 3) cI 129 shot, rwC (q 1) cI 129 shot]) rfl rfl rfl hl.1 rfl (Nat.le_of_ble_eq_true rfl) dX6_goBack_33 ⟨Nat.zero_le _, Nat.zero_le _⟩ rfl (bs' := [mdC q ((f_X6_refused (bI (if isShot = true then false else true))).2) isShot ((f_X6_save states now book).1) length at_ good runs did, rwC (q 1) cI 129 shot, rwC (q 3) cI 129 shot, rwC (q 4) cI 774 ((f_X6_save states now book).2)]) rfl (fun H locs hP hD hS => ?_)
    refine lv_aload_n hx hb dX6_goBack_36 rfl (lv_at hl 0 rfl) ?_
    refine va_get (D := G) (ci := 4) (C := RX6) (T := TX6) (N := 15) hx hb hw in_X6 hown hK hP 0 rfl rfl 1 (by decide) (hw _ aw_872) (fun _ h9 => h9) rfl dX6_goBack_37 ?_
    refine lv_bipush (v := 126) hx hb dX6_goBack_40 (by decide) ?_
    refine nv_iald hx hb hK hP 1 0 rfl rfl 126 (by omega) (by decide) dX6_goBack_42 ?_
    rw [← hQQ]; exact W.iret hx hb hr (ct_end (F := (f_X6_goBack isShot states now shot book)) (u := ((shot 126), (f_X6_refused (bI (if isShot = true then false else true))).2, (f_X6_save states now book).1, shot, (f_X6_save states now book).2)) (rf := (fun u => some (.int u.1))) (wf := (fun u => [mdC q u.2.1 isShot u.2.2.1 length at_ good runs did, rwC (q 1) cI 129 u.2.2.2.1, rwC (q 3) cI 129 shot, rwC (q 4) cI 774 u.2.2.2.2].flatten)) rfl rfl hP hD hS) hS.2.2 dX6_goBack_43
  refine bv_ifeq hx hb isShot 12 dX6_goBack_5 (by decide) (fun c_1 => ?_) (fun c_1 => ?_)
  · refine lv_iconst (v := 1) hx hb dX6_goBack_12 (by decide) ?_
    exact hM_5 true _ _ _ (if_neg c_1).symm (lv_sub hl [0] rfl) hP hD hS
  · refine lv_iconst (v := 0) hx hb dX6_goBack_8 (by decide) ?_
    refine lv_goto (tgt := 13) hx hb dX6_goBack_9 (by decide) ?_
    exact hM_5 false _ _ _ (if_pos c_1).symm (lv_sub hl [0] rfl) hP hD hS
set_option maxRecDepth 100000 in
set_option maxHeartbeats 4000000 in
theorem k_X6_goBack_R (l : Launch) (G : va_G) (cI cS cL : ClassId) (q : Nat → Nat) (refusal : Int32) (isShot : Bool) (states : Nat) (length : Nat) (at_ : Nat) (good : Bool) (runs : Bool) (did : Int32) (now : Nat → Int32) (shot : Nat → Int32) (book : Nat → Int32) (hrf : ((f_X6_refused (bI (if isShot = true then false else true))).1) = true) : Ct l G (tyl cI cS cL) yX6_goBack cX6_goBack 1 (some (Jvm.ClassFile.FieldType.int)) 1 21 0 0 [.ref (q 0)] [mdC q refusal isShot states length at_ good runs did, rwC (q 1) cI 129 now, rwC (q 3) cI 129 shot, rwC (q 4) cI 774 book].flatten (f_X6_goBack_R isShot) (fun u => some (.int u.1)) (fun u => [mdC q u.2 isShot states length at_ good runs did, rwC (q 1) cI 129 now, rwC (q 3) cI 129 shot, rwC (q 4) cI 774 book].flatten) := by
  refine Ct.of (by decide +kernel) (Nat.le_of_ble_eq_true rfl) ?_
  intro p e s m args below meth c A ls hx hb hr hml hw hown hlocks hin hK hN hP hD hS hA hl
  have hown : s.vm.findClass RX6 = some m.cls := hown
  have X : Cx p s m args c cX6_goBack 1 RX6 G (tyl cI cS cL) := ⟨hx, hb, hml, hown, hw, hK, hN⟩
  have hP : va_P G classes [mdC q refusal isShot states length at_ good runs did, rwC (q 1) cI 129 now, rwC (q 3) cI 129 shot, rwC (q 4) cI 774 book].flatten s.heap := hP
  have hl : lv_has ls 1 [(0, .ref (q 0))] := hl
  generalize hQQ : MQ below _ args s 0 0 A = QQ
  refine lv_aload_n hx hb dX6_goBack_0 rfl (lv_at hl 0 rfl) ?_
  refine lv_aload_n hx hb dX6_goBack_1 rfl (lv_at hl 0 rfl) ?_
  refine va_get (D := G) (ci := 4) (C := RX6) (T := TX6) (N := 15) hx hb hw in_X6 hown hK hP 0 rfl rfl 4 (by decide) (hw _ aw_875) (fun _ h9 => h9) rfl dX6_goBack_2 ?_
  have hM_5 : ∀ (v_4 : Bool) (ls : Array Slot) (H : Heap) (locs : List Loc), v_4 = (if isShot = true then false else true) → lv_has ls 1 [(0, .ref (q 0))] → va_P G classes [mdC q refusal isShot states length at_ good runs did, rwC (q 1) cI 129 now, rwC (q 3) cI 129 shot, rwC (q 4) cI 774 book].flatten H → va_D A [mdC q refusal isShot states length at_ good runs did, rwC (q 1) cI 129 now, rwC (q 3) cI 129 shot, rwC (q 4) cI 774 book].flatten → va_S A s.heap H locs → W p l e ({ frames := 1, cells := 0, slots := 0, locals := 21 } : Room) s m args below meth c H locs 0 0 QQ (F0 m 13 ls [.int (bI v_4), .ref (q 0)]) := by
    intro v_4 ls H locs e_v_4 hl hP hD hS
    subst e_v_4
    refine ct_callV (As := [.int (bI (if isShot = true then false else true))]) (rest := []) X hP hD hS hA (k_X6_refused l G cI cS cL q refusal isShot states length at_ good runs did (bI (if isShot = true then false else true))) cp_X6_refused aw_929 ⟨Nat.le_of_ble_eq_true rfl, Nat.le_of_ble_eq_true rfl⟩ [0] (cs := [mdC q refusal isShot states length at_ good runs did]) rfl (by decide) (cs' := [mdC q ((f_X6_refused (bI (if isShot = true then false else true))).2) isShot states length at_ good runs did]) rfl rfl 4 rfl rfl (q0 := 0) rfl rfl hl.1 rfl (Nat.le_of_ble_eq_true rfl) dX6_goBack_13 ⟨Nat.zero_le _, Nat.zero_le _⟩ rfl (bs' := [mdC q ((f_X6_refused (bI (if isShot = true then false else true))).2) isShot states length at_ good runs did, rwC (q 1) cI 129 now, rwC (q 3) cI 129 shot, rwC (q 4) cI 774 book]) rfl (fun H locs hP hD hS => ?_)
    refine bv_ifeq hx hb ((f_X6_refused (bI (if isShot = true then false else true))).1) 21 dX6_goBack_16 (by decide) (fun c => absurd hrf c) (fun c_6 => ?_)
    refine lv_iconst (v := 0) hx hb dX6_goBack_19 (by decide) ?_
    rw [← hQQ]; exact W.iret hx hb hr (ct_end (F := (f_X6_goBack_R isShot)) (u := ((0 : Int32), (f_X6_refused (bI (if isShot = true then false else true))).2)) (rf := (fun u => some (.int u.1))) (wf := (fun u => [mdC q u.2 isShot states length at_ good runs did, rwC (q 1) cI 129 now, rwC (q 3) cI 129 shot, rwC (q 4) cI 774 book].flatten)) rfl rfl hP hD hS) hS.2.2 dX6_goBack_20
  refine bv_ifeq hx hb isShot 12 dX6_goBack_5 (by decide) (fun c_1 => ?_) (fun c_1 => ?_)
  · refine lv_iconst (v := 1) hx hb dX6_goBack_12 (by decide) ?_
    exact hM_5 true _ _ _ (if_neg c_1).symm (lv_sub hl [0] rfl) hP hD hS
  · refine lv_iconst (v := 0) hx hb dX6_goBack_8 (by decide) ?_
    refine lv_goto (tgt := 13) hx hb dX6_goBack_9 (by decide) ?_
    exact hM_5 false _ _ _ (if_pos c_1).symm (lv_sub hl [0] rfl) hP hD hS
set_option maxRecDepth 100000 in
set_option maxHeartbeats 4000000 in
theorem k_X6_lockedSet (l : Launch) (G : va_G) (cI cS cL : ClassId) (q : Nat → Nat) (refusal : Int32) (isShot : Bool) (states : Nat) (length : Nat) (at_ : Nat) (good : Bool) (runs : Bool) (did : Int32) (now : Nat → Int32) (k : Nat) (hk : k < 8) : Ct l G (tyl cI cS cL) yX6_lockedSet cX6_lockedSet 4 (some (Jvm.ClassFile.FieldType.int)) 2 43 0 0 [.ref (q 0), .int (nI k)] [mdC q refusal isShot states length at_ good runs did, rwC (q 1) cI 129 now].flatten (f_X6_lockedSet now k) (fun u => some (.int u)) (fun _ => [mdC q refusal isShot states length at_ good runs did, rwC (q 1) cI 129 now].flatten) := by
  refine Ct.of (by decide +kernel) (Nat.le_of_ble_eq_true rfl) ?_
  intro p e s m args below meth c A ls hx hb hr hml hw hown hlocks hin hK hN hP hD hS hA hl
  have hown : s.vm.findClass RX6 = some m.cls := hown
  have X : Cx p s m args c cX6_lockedSet 4 RX6 G (tyl cI cS cL) := ⟨hx, hb, hml, hown, hw, hK, hN⟩
  have hP : va_P G classes [mdC q refusal isShot states length at_ good runs did, rwC (q 1) cI 129 now].flatten s.heap := hP
  have hl : lv_has ls 4 [(0, .ref (q 0)), (1, .int (nI k))] := hl
  generalize hQQ : MQ below _ args s 0 0 A = QQ
  refine lv_iconst (v := 0) hx hb dX6_lockedSet_0 (by decide) ?_
  refine lv_istore_n (lv' := [(2, .int (0 : Int32)), (0, .ref (q 0)), (1, .int (nI k))]) hx hb dX6_lockedSet_1 rfl hl (by decide) rfl (fun ls hl => ?_)
  refine lv_iconst (v := 0) hx hb dX6_lockedSet_2 (by decide) ?_
  refine lv_istore_n (lv' := [(3, .int (0 : Int32)), (2, .int (0 : Int32)), (0, .ref (q 0)), (1, .int (nI k))]) hx hb dX6_lockedSet_3 rfl hl (by decide) rfl (fun ls hl => ?_)
  refine it_loop (f := (L_X6_lockedSet_4 now k)) 8 (fun (i4 : Nat) (s4 : Int32) => ∀ (ls : Array Slot) (H : Heap) (locs : List Loc), lv_has ls 4 [(3, .int (nI i4)), (2, .int s4), (0, .ref (q 0)), (1, .int (nI k))] → va_P G classes [mdC q refusal isShot states length at_ good runs did, rwC (q 1) cI 129 now].flatten H → va_D A [mdC q refusal isShot states length at_ good runs did, rwC (q 1) cI 129 now].flatten → va_S A s.heap H locs → W p l e ({ frames := 2, cells := 0, slots := 0, locals := 43 } : Room) s m args below meth c H locs 0 0 QQ (F0 m 4 ls [])) (fun i4 s4 hi4 ih => ?_) 8 0 (0 : Int32) (by omega) ?_ ls _ _ (lv_sub hl [0, 1, 2, 3] rfl) hP hD hS
  · intro ls H locs hl hP hD hS
    refine lv_iload_n hx hb dX6_lockedSet_4 rfl (lv_at hl 0 rfl) ?_
    refine lv_bipush (v := 8) hx hb dX6_lockedSet_5 (by decide) ?_
    refine nv_ge hx hb i4 8 38 (by omega) (by omega) dX6_lockedSet_7 (by decide) (fun hc => absurd hc (by omega)) (fun _ => ?_)
    refine lv_iload_n hx hb dX6_lockedSet_10 rfl (lv_at hl 1 rfl) ?_
    refine lv_aload_n hx hb dX6_lockedSet_11 rfl (lv_at hl 2 rfl) ?_
    refine va_get (D := G) (ci := 4) (C := RX6) (T := TX6) (N := 15) hx hb hw in_X6 hown hK hP 0 rfl rfl 1 (by decide) (hw _ aw_872) (fun _ h9 => h9) rfl dX6_lockedSet_12 ?_
    refine lv_iload_n hx hb dX6_lockedSet_15 rfl (lv_at hl 3 rfl) ?_
    refine lv_iload_n hx hb dX6_lockedSet_16 rfl (lv_at hl 0 rfl) ?_
    refine ct_callS (As := [.ref (q 1), .int (nI k), .int (nI i4)]) (rest := [.int s4]) X hP hD hS hA (k_X6_isLocked l G cI cS cL (q 1) now k i4 (by omega) (by omega)) cq_X6_isLocked aw_1097 ⟨Nat.le_of_ble_eq_true rfl, Nat.le_of_ble_eq_true rfl⟩ [1] (cs := [rwC (q 1) cI 129 now]) rfl (by decide) (cs' := [rwC (q 1) cI 129 now]) rfl rfl rfl hl.1 rfl (Nat.le_of_ble_eq_true rfl) dX6_lockedSet_17 ⟨Nat.zero_le _, Nat.zero_le _⟩ rfl (bs' := [mdC q refusal isShot states length at_ good runs did, rwC (q 1) cI 129 now]) rfl (fun H locs hP hD hS => ?_)
    have hM_7 : ∀ (v_6 : Int32) (ls : Array Slot) (H : Heap) (locs : List Loc), v_6 = (if (f_X6_isLocked now k i4) = true then ((1 : Int32) <<< ((nI i4) &&& 31)) else (0 : Int32)) → lv_has ls 4 [(3, .int (nI i4)), (0, .ref (q 0)), (1, .int (nI k))] → va_P G classes [mdC q refusal isShot states length at_ good runs did, rwC (q 1) cI 129 now].flatten H → va_D A [mdC q refusal isShot states length at_ good runs did, rwC (q 1) cI 129 now].flatten → va_S A s.heap H locs → W p l e ({ frames := 2, cells := 0, slots := 0, locals := 43 } : Room) s m args below meth c H locs 0 0 QQ (F0 m 30 ls [.int v_6, .int s4]) := by
      intro v_6 ls H locs e_v_6 hl hP hD hS
      subst e_v_6
      refine lv_ior hx hb dX6_lockedSet_30 ?_
      refine lv_istore_n (lv' := [(2, .int (s4 ||| (if (f_X6_isLocked now k i4) = true then ((1 : Int32) <<< ((nI i4) &&& 31)) else (0 : Int32)))), (3, .int (nI i4)), (0, .ref (q 0)), (1, .int (nI k))]) hx hb dX6_lockedSet_31 rfl hl (by decide) rfl (fun ls hl => ?_)
      refine nv_iinc (k := 1) (lv' := [(3, .int (nI (i4 + 1))), (2, .int (s4 ||| (if (f_X6_isLocked now k i4) = true then ((1 : Int32) <<< ((nI i4) &&& 31)) else (0 : Int32)))), (0, .ref (q 0)), (1, .int (nI k))]) hx hb i4 dX6_lockedSet_32 hl rfl (by decide) rfl (fun ls hl => ?_)
      refine lv_goto (tgt := 4) hx hb dX6_lockedSet_35 (by decide) ?_
      exact ih _ _ _ (lv_sub hl [0, 1, 2, 3] rfl) hP hD hS
    refine bv_ifeq hx hb (f_X6_isLocked now k i4) 29 dX6_lockedSet_20 (by decide) (fun c_3 => ?_) (fun c_3 => ?_)
    · refine lv_iconst (v := 0) hx hb dX6_lockedSet_29 (by decide) ?_
      exact hM_7 (0 : Int32) _ _ _ (if_neg c_3).symm (lv_sub hl [0, 2, 3] rfl) hP hD hS
    · refine lv_iconst (v := 1) hx hb dX6_lockedSet_23 (by decide) ?_
      refine lv_iload_n hx hb dX6_lockedSet_24 rfl (lv_at hl 0 rfl) ?_
      refine lv_ishl hx hb dX6_lockedSet_25 ?_
      refine lv_goto (tgt := 30) hx hb dX6_lockedSet_26 (by decide) ?_
      exact hM_7 ((1 : Int32) <<< ((nI i4) &&& 31)) _ _ _ (if_pos c_3).symm (lv_sub hl [0, 2, 3] rfl) hP hD hS
  · intro ls H locs hl hP hD hS
    refine lv_iload_n hx hb dX6_lockedSet_4 rfl (lv_at hl 0 rfl) ?_
    refine lv_bipush (v := 8) hx hb dX6_lockedSet_5 (by decide) ?_
    refine nv_ge hx hb 8 8 38 (by omega) (by omega) dX6_lockedSet_7 (by decide) (fun _ => ?_) (fun hc => absurd hc (by omega))
    refine lv_iload_n hx hb dX6_lockedSet_38 rfl (lv_at hl 1 rfl) ?_
    rw [← hQQ]; exact W.iret hx hb hr (ct_end (F := (f_X6_lockedSet now k)) (u := (it (L_X6_lockedSet_4 now k) 0 8 (0 : Int32))) (rf := (fun u => some (.int u))) (wf := (fun _ => [mdC q refusal isShot states length at_ good runs did, rwC (q 1) cI 129 now].flatten)) rfl rfl hP hD hS) hS.2.2 dX6_lockedSet_39
set_option maxRecDepth 100000 in
set_option maxHeartbeats 4000000 in
theorem k_X6_tellClock (l : Launch) (G : va_G) (cI cS cL : ClassId) (q : Nat → Nat) (refusal : Int32) (isShot : Bool) (states : Nat) (length : Nat) (at_ : Nat) (good : Bool) (runs : Bool) (did : Int32) (now : Nat → Int32) (group : Nat → Int32) (k : Nat) (w : Nat) (hk : k < 8) (hw_ : w < 11) (hI : InvB now) : Ct l G (tyl cI cS cL) yX6_tellClock cX6_tellClock 4 (some (Jvm.ClassFile.FieldType.int)) 4 93 0 0 [.ref (q 0), .int (nI k), .int (nI w)] [mdC q refusal isShot states length at_ good runs did, rwC (q 1) cI 129 now, rwC (q 6) cI 8 group].flatten (f_X6_tellClock now group k w) (fun u => some (.int u.1)) (fun u => [mdC q refusal isShot states length at_ good runs did, rwC (q 1) cI 129 now, rwC (q 6) cI 8 u.2].flatten) := by
  refine Ct.of (by decide +kernel) (Nat.le_of_ble_eq_true rfl) ?_
  intro p e s m args below meth c A ls hx hb hr hml hw hown hlocks hin hK hN hP hD hS hA hl
  have hown : s.vm.findClass RX6 = some m.cls := hown
  have X : Cx p s m args c cX6_tellClock 4 RX6 G (tyl cI cS cL) := ⟨hx, hb, hml, hown, hw, hK, hN⟩
  have hP : va_P G classes [mdC q refusal isShot states length at_ good runs did, rwC (q 1) cI 129 now, rwC (q 6) cI 8 group].flatten s.heap := hP
  have hl : lv_has ls 4 [(0, .ref (q 0)), (1, .int (nI k)), (2, .int (nI w))] := hl
  generalize hQQ : MQ below _ args s 0 0 A = QQ
  refine lv_iload_n hx hb dX6_tellClock_0 rfl (lv_at hl 1 rfl) ?_
  refine ct_callS (As := [.int (nI k)]) (rest := []) X hP hD hS hA (k_X6_spot l G cI cS cL  k) cq_X6_spot aw_951 ⟨Nat.le_of_ble_eq_true rfl, Nat.le_of_ble_eq_true rfl⟩ ([] : List Nat) (cs := []) rfl (by decide) (cs' := []) rfl rfl rfl hl.1 rfl (Nat.le_of_ble_eq_true rfl) dX6_tellClock_1 ⟨Nat.zero_le _, Nat.zero_le _⟩ rfl (bs' := [mdC q refusal isShot states length at_ good runs did, rwC (q 1) cI 129 now, rwC (q 6) cI 8 group]) rfl (fun H locs hP hD hS => ?_)
  refine lv_istore_n (lv' := [(3, .int (nI (6 + (7 * k)))), (0, .ref (q 0)), (1, .int (nI k)), (2, .int (nI w))]) hx hb dX6_tellClock_4 rfl hl (by decide) rfl (fun ls hl => ?_)
  refine lv_iload_n hx hb dX6_tellClock_5 rfl (lv_at hl 3 rfl) ?_
  rcases Classical.em ((nI w) = 5) with c_1 | c_1
  · refine lv_tableIn (off := 38) (tgt := 44) hx hb dX6_tellClock_6 (by rw [c_1]; decide) (by rw [c_1]; decide) (by rw [c_1]; rfl) (by decide) ?_
    refine lv_aload_n hx hb dX6_tellClock_44 rfl (lv_at hl 1 rfl) ?_
    refine va_get (D := G) (ci := 4) (C := RX6) (T := TX6) (N := 15) hx hb hw in_X6 hown hK hP 0 rfl rfl 1 (by decide) (hw _ aw_872) (fun _ h9 => h9) rfl dX6_tellClock_45 ?_
    refine lv_iload_n hx hb dX6_tellClock_48 rfl (lv_at hl 2 rfl) ?_
    refine ct_callS (As := [.ref (q 1), .int (nI k)]) (rest := []) X hP hD hS hA (k_X6_pull l G cI cS cL (q 1) now k (by omega) hI) cq_X6_pull aw_945 ⟨Nat.le_of_ble_eq_true rfl, Nat.le_of_ble_eq_true rfl⟩ [1] (cs := [rwC (q 1) cI 129 now]) rfl (by decide) (cs' := [rwC (q 1) cI 129 now]) rfl rfl rfl hl.1 rfl (Nat.le_of_ble_eq_true rfl) dX6_tellClock_49 ⟨Nat.zero_le _, Nat.zero_le _⟩ rfl (bs' := [mdC q refusal isShot states length at_ good runs did, rwC (q 1) cI 129 now, rwC (q 6) cI 8 group]) rfl (fun H locs hP hD hS => ?_)
    rw [← hQQ]; exact W.iret hx hb hr (ct_end (F := (f_X6_tellClock now group k w)) (u := ((f_X6_pull now k), group)) (rf := (fun u => some (.int u.1))) (wf := (fun u => [mdC q refusal isShot states length at_ good runs did, rwC (q 1) cI 129 now, rwC (q 6) cI 8 u.2].flatten)) (by first | (unfold f_X6_tellClock; rw [if_pos c_1]; first | done | rfl) | (unfold f_X6_tellClock; simp only [if_pos c_1])) rfl hP hD hS) hS.2.2 dX6_tellClock_52
  rcases Classical.em ((nI w) = 6) with c_3 | c_3
  · refine lv_tableIn (off := 47) (tgt := 53) hx hb dX6_tellClock_6 (by rw [c_3]; decide) (by rw [c_3]; decide) (by rw [c_3]; rfl) (by decide) ?_
    refine lv_aload_n hx hb dX6_tellClock_53 rfl (lv_at hl 1 rfl) ?_
    refine va_get (D := G) (ci := 4) (C := RX6) (T := TX6) (N := 15) hx hb hw in_X6 hown hK hP 0 rfl rfl 1 (by decide) (hw _ aw_872) (fun _ h9 => h9) rfl dX6_tellClock_54 ?_
    refine lv_iload_n hx hb dX6_tellClock_57 rfl (lv_at hl 0 rfl) ?_
    refine lv_iconst (v := 5) hx hb dX6_tellClock_58 (by decide) ?_
    refine nv_iadd hx hb (6 + (7 * k)) 5 dX6_tellClock_59 ?_
    refine nv_iald hx hb hK hP 1 0 rfl rfl ((6 + (7 * k)) + 5) (by omega) (by decide) dX6_tellClock_60 ?_
    rw [← hQQ]; exact W.iret hx hb hr (ct_end (F := (f_X6_tellClock now group k w)) (u := ((now ((6 + (7 * k)) + 5)), group)) (rf := (fun u => some (.int u.1))) (wf := (fun u => [mdC q refusal isShot states length at_ good runs did, rwC (q 1) cI 129 now, rwC (q 6) cI 8 u.2].flatten)) (by first | (unfold f_X6_tellClock; rw [if_neg c_1, if_pos c_3]; first | done | rfl) | (unfold f_X6_tellClock; simp only [if_neg c_1, if_pos c_3])) rfl hP hD hS) hS.2.2 dX6_tellClock_61
  rcases Classical.em ((nI w) = 7) with c_5 | c_5
  · refine lv_tableIn (off := 56) (tgt := 62) hx hb dX6_tellClock_6 (by rw [c_5]; decide) (by rw [c_5]; decide) (by rw [c_5]; rfl) (by decide) ?_
    refine lv_aload_n hx hb dX6_tellClock_62 rfl (lv_at hl 1 rfl) ?_
    refine va_get (D := G) (ci := 4) (C := RX6) (T := TX6) (N := 15) hx hb hw in_X6 hown hK hP 0 rfl rfl 1 (by decide) (hw _ aw_872) (fun _ h9 => h9) rfl dX6_tellClock_63 ?_
    refine lv_iload_n hx hb dX6_tellClock_66 rfl (lv_at hl 0 rfl) ?_
    refine lv_bipush (v := 6) hx hb dX6_tellClock_67 (by decide) ?_
    refine nv_iadd hx hb (6 + (7 * k)) 6 dX6_tellClock_69 ?_
    refine nv_iald hx hb hK hP 1 0 rfl rfl ((6 + (7 * k)) + 6) (by omega) (by decide) dX6_tellClock_70 ?_
    rw [← hQQ]; exact W.iret hx hb hr (ct_end (F := (f_X6_tellClock now group k w)) (u := ((now ((6 + (7 * k)) + 6)), group)) (rf := (fun u => some (.int u.1))) (wf := (fun u => [mdC q refusal isShot states length at_ good runs did, rwC (q 1) cI 129 now, rwC (q 6) cI 8 u.2].flatten)) (by first | (unfold f_X6_tellClock; rw [if_neg c_1, if_neg c_3, if_pos c_5]; first | done | rfl) | (unfold f_X6_tellClock; simp only [if_neg c_1, if_neg c_3, if_pos c_5])) rfl hP hD hS) hS.2.2 dX6_tellClock_71
  rcases Classical.em ((nI w) = 8) with c_7 | c_7
  · refine lv_tableIn (off := 66) (tgt := 72) hx hb dX6_tellClock_6 (by rw [c_7]; decide) (by rw [c_7]; decide) (by rw [c_7]; rfl) (by decide) ?_
    refine lv_aload_n hx hb dX6_tellClock_72 rfl (lv_at hl 1 rfl) ?_
    refine lv_iload_n hx hb dX6_tellClock_73 rfl (lv_at hl 2 rfl) ?_
    refine ct_callV (As := [.int (nI k)]) (rest := []) X hP hD hS hA (k_X6_lockedSet l G cI cS cL q refusal isShot states length at_ good runs did now k (by omega)) cp_X6_lockedSet aw_1093 ⟨Nat.le_of_ble_eq_true rfl, Nat.le_of_ble_eq_true rfl⟩ [0, 1] (cs := [mdC q refusal isShot states length at_ good runs did, rwC (q 1) cI 129 now]) rfl (by decide) (cs' := [mdC q refusal isShot states length at_ good runs did, rwC (q 1) cI 129 now]) rfl rfl 4 rfl rfl (q0 := 0) rfl rfl hl.1 rfl (Nat.le_of_ble_eq_true rfl) dX6_tellClock_74 ⟨Nat.zero_le _, Nat.zero_le _⟩ rfl (bs' := [mdC q refusal isShot states length at_ good runs did, rwC (q 1) cI 129 now, rwC (q 6) cI 8 group]) rfl (fun H locs hP hD hS => ?_)
    rw [← hQQ]; exact W.iret hx hb hr (ct_end (F := (f_X6_tellClock now group k w)) (u := ((f_X6_lockedSet now k), group)) (rf := (fun u => some (.int u.1))) (wf := (fun u => [mdC q refusal isShot states length at_ good runs did, rwC (q 1) cI 129 now, rwC (q 6) cI 8 u.2].flatten)) (by first | (unfold f_X6_tellClock; rw [if_neg c_1, if_neg c_3, if_neg c_5, if_pos c_7]; first | done | rfl) | (unfold f_X6_tellClock; simp only [if_neg c_1, if_neg c_3, if_neg c_5, if_pos c_7])) rfl hP hD hS) hS.2.2 dX6_tellClock_77
  rcases Classical.em ((nI w) = 9) with c_9 | c_9
  · refine lv_tableIn (off := 72) (tgt := 78) hx hb dX6_tellClock_6 (by rw [c_9]; decide) (by rw [c_9]; decide) (by rw [c_9]; rfl) (by decide) ?_
    refine lv_aload_n hx hb dX6_tellClock_78 rfl (lv_at hl 1 rfl) ?_
    refine lv_aload_n hx hb dX6_tellClock_79 rfl (lv_at hl 1 rfl) ?_
    refine va_get (D := G) (ci := 4) (C := RX6) (T := TX6) (N := 15) hx hb hw in_X6 hown hK hP 0 rfl rfl 1 (by decide) (hw _ aw_872) (fun _ h9 => h9) rfl dX6_tellClock_80 ?_
    refine ct_callV (As := [.ref (q 1)]) (rest := []) X hP hD hS hA (k_X6_layGroups l G cI cS cL q (q 1) refusal isShot states length at_ good runs did group now) cp_X6_layGroups aw_1100 ⟨Nat.le_of_ble_eq_true rfl, Nat.le_of_ble_eq_true rfl⟩ [0, 2, 1] (cs := [mdC q refusal isShot states length at_ good runs did, rwC (q 6) cI 8 group, rwC (q 1) cI 129 now]) rfl (by decide) (cs' := [mdC q refusal isShot states length at_ good runs did, rwC (q 6) cI 8 (f_X6_layGroups group now), rwC (q 1) cI 129 now]) rfl rfl 4 rfl rfl (q0 := 0) rfl rfl hl.1 rfl (Nat.le_of_ble_eq_true rfl) dX6_tellClock_83 ⟨Nat.zero_le _, Nat.zero_le _⟩ rfl (bs' := [mdC q refusal isShot states length at_ good runs did, rwC (q 1) cI 129 now, rwC (q 6) cI 8 (f_X6_layGroups group now)]) rfl (fun H locs hP hD hS => ?_)
    refine lv_aload_n hx hb dX6_tellClock_86 rfl (lv_at hl 1 rfl) ?_
    refine va_get (D := G) (ci := 4) (C := RX6) (T := TX6) (N := 15) hx hb hw in_X6 hown hK hP 0 rfl rfl 8 (by decide) (hw _ aw_879) (fun _ h9 => h9) rfl dX6_tellClock_87 ?_
    refine lv_iload_n hx hb dX6_tellClock_90 rfl (lv_at hl 2 rfl) ?_
    refine nv_iald hx hb hK hP 2 0 rfl rfl k (by omega) (by decide) dX6_tellClock_91 ?_
    rw [← hQQ]; exact W.iret hx hb hr (ct_end (F := (f_X6_tellClock now group k w)) (u := (((f_X6_layGroups group now) k), (f_X6_layGroups group now))) (rf := (fun u => some (.int u.1))) (wf := (fun u => [mdC q refusal isShot states length at_ good runs did, rwC (q 1) cI 129 now, rwC (q 6) cI 8 u.2].flatten)) (by first | (unfold f_X6_tellClock; rw [if_neg c_1, if_neg c_3, if_neg c_5, if_neg c_7, if_pos c_9]; first | done | rfl) | (unfold f_X6_tellClock; simp only [if_neg c_1, if_neg c_3, if_neg c_5, if_neg c_7, if_pos c_9])) rfl hP hD hS) hS.2.2 dX6_tellClock_92
  rcases Classical.em ((nI w) = 10) with c_11 | c_11
  · refine lv_tableIn (off := 87) (tgt := 93) hx hb dX6_tellClock_6 (by rw [c_11]; decide) (by rw [c_11]; decide) (by rw [c_11]; rfl) (by decide) ?_
    refine lv_aload_n hx hb dX6_tellClock_93 rfl (lv_at hl 1 rfl) ?_
    refine lv_aload_n hx hb dX6_tellClock_94 rfl (lv_at hl 1 rfl) ?_
    refine va_get (D := G) (ci := 4) (C := RX6) (T := TX6) (N := 15) hx hb hw in_X6 hown hK hP 0 rfl rfl 1 (by decide) (hw _ aw_872) (fun _ h9 => h9) rfl dX6_tellClock_95 ?_
    refine lv_iload_n hx hb dX6_tellClock_98 rfl (lv_at hl 2 rfl) ?_
    refine ct_callV (As := [.ref (q 1), .int (nI k)]) (rest := []) X hP hD hS hA (k_X6_groupSet l G cI cS cL q (q 1) refusal isShot states length at_ good runs did group now k (by omega)) cp_X6_groupSet aw_1104 ⟨Nat.le_of_ble_eq_true rfl, Nat.le_of_ble_eq_true rfl⟩ [0, 2, 1] (cs := [mdC q refusal isShot states length at_ good runs did, rwC (q 6) cI 8 group, rwC (q 1) cI 129 now]) rfl (by decide) (cs' := [mdC q refusal isShot states length at_ good runs did, rwC (q 6) cI 8 ((f_X6_groupSet group now k).2), rwC (q 1) cI 129 now]) rfl rfl 4 rfl rfl (q0 := 0) rfl rfl hl.1 rfl (Nat.le_of_ble_eq_true rfl) dX6_tellClock_99 ⟨Nat.zero_le _, Nat.zero_le _⟩ rfl (bs' := [mdC q refusal isShot states length at_ good runs did, rwC (q 1) cI 129 now, rwC (q 6) cI 8 ((f_X6_groupSet group now k).2)]) rfl (fun H locs hP hD hS => ?_)
    rw [← hQQ]; exact W.iret hx hb hr (ct_end (F := (f_X6_tellClock now group k w)) (u := (f_X6_groupSet group now k)) (rf := (fun u => some (.int u.1))) (wf := (fun u => [mdC q refusal isShot states length at_ good runs did, rwC (q 1) cI 129 now, rwC (q 6) cI 8 u.2].flatten)) (by first | (unfold f_X6_tellClock; rw [if_neg c_1, if_neg c_3, if_neg c_5, if_neg c_7, if_neg c_9, if_pos c_11]; first | done | rfl) | (unfold f_X6_tellClock; simp only [if_neg c_1, if_neg c_3, if_neg c_5, if_neg c_7, if_neg c_9, if_pos c_11])) rfl hP hD hS) hS.2.2 dX6_tellClock_102
  refine lv_tableOut (tgt := 103) hx hb dX6_tellClock_6 (sw_out (lo := 5) (hi := 10) (fun j h1 h2 => by
      have h3 : j = 5 ∨ j = 6 ∨ j = 7 ∨ j = 8 ∨ j = 9 ∨ j = 10 := by omega
      rcases h3 with rfl | rfl | rfl | rfl | rfl | rfl
      · exact c_1
      · exact c_3
      · exact c_5
      · exact c_7
      · exact c_9
      · exact c_11)) (by decide) ?_
  refine lv_aload_n hx hb dX6_tellClock_103 rfl (lv_at hl 1 rfl) ?_
  refine va_get (D := G) (ci := 4) (C := RX6) (T := TX6) (N := 15) hx hb hw in_X6 hown hK hP 0 rfl rfl 1 (by decide) (hw _ aw_872) (fun _ h9 => h9) rfl dX6_tellClock_104 ?_
  refine lv_iload_n hx hb dX6_tellClock_107 rfl (lv_at hl 0 rfl) ?_
  refine lv_iload_n hx hb dX6_tellClock_108 rfl (lv_at hl 3 rfl) ?_
  refine nv_iadd hx hb (6 + (7 * k)) w dX6_tellClock_109 ?_
  refine nv_iald hx hb hK hP 1 0 rfl rfl ((6 + (7 * k)) + w) (by omega) (by decide) dX6_tellClock_110 ?_
  rw [← hQQ]; exact W.iret hx hb hr (ct_end (F := (f_X6_tellClock now group k w)) (u := ((now ((6 + (7 * k)) + w)), group)) (rf := (fun u => some (.int u.1))) (wf := (fun u => [mdC q refusal isShot states length at_ good runs did, rwC (q 1) cI 129 now, rwC (q 6) cI 8 u.2].flatten)) (by first | (unfold f_X6_tellClock; rw [if_neg c_1, if_neg c_3, if_neg c_5, if_neg c_7, if_neg c_9, if_neg c_11]; first | done | rfl) | (unfold f_X6_tellClock; simp only [if_neg c_1, if_neg c_3, if_neg c_5, if_neg c_7, if_neg c_9, if_neg c_11])) rfl hP hD hS) hS.2.2 dX6_tellClock_111
set_option maxRecDepth 100000 in
set_option maxHeartbeats 4000000 in
theorem k_X6_clock (l : Launch) (G : va_G) (cI cS cL : ClassId) (q : Nat → Nat) (refusal : Int32) (isShot : Bool) (states : Nat) (length : Nat) (at_ : Nat) (good : Bool) (runs : Bool) (did : Int32) (now : Nat → Int32) (group : Nat → Int32) (k : Nat) (w : Nat) (hk : k < 8) (hw_ : w < 11) (hI : InvB now) (hrf : ¬ (((f_X6_refused (if (f_X6_isClock (nI k)) = true then (if (f_X6_in ((nI w).toInt64) (0 : Int64) (10 : Int64)) = true then (0 : Int32) else (2 : Int32)) else (1 : Int32))).1) = true)) : Ct l G (tyl cI cS cL) yX6_clock cX6_clock 3 (some (Jvm.ClassFile.FieldType.int)) 5 116 0 0 [.ref (q 0), .int (nI k), .int (nI w)] [mdC q refusal isShot states length at_ good runs did, rwC (q 1) cI 129 now, rwC (q 6) cI 8 group].flatten (f_X6_clock now group k w) (fun u => some (.int u.1)) (fun u => [mdC q u.2.1 isShot states length at_ good runs did, rwC (q 1) cI 129 now, rwC (q 6) cI 8 u.2.2].flatten) := by
  refine Ct.of (by decide +kernel) (Nat.le_of_ble_eq_true rfl) ?_
  intro p e s m args below meth c A ls hx hb hr hml hw hown hlocks hin hK hN hP hD hS hA hl
  have hown : s.vm.findClass RX6 = some m.cls := hown
  have X : Cx p s m args c cX6_clock 3 RX6 G (tyl cI cS cL) := ⟨hx, hb, hml, hown, hw, hK, hN⟩
  have hP : va_P G classes [mdC q refusal isShot states length at_ good runs did, rwC (q 1) cI 129 now, rwC (q 6) cI 8 group].flatten s.heap := hP
  have hl : lv_has ls 3 [(0, .ref (q 0)), (1, .int (nI k)), (2, .int (nI w))] := hl
  generalize hQQ : MQ below _ args s 0 0 A = QQ
  refine lv_aload_n hx hb dX6_clock_0 rfl (lv_at hl 0 rfl) ?_
  refine lv_iload_n hx hb dX6_clock_1 rfl (lv_at hl 1 rfl) ?_
  refine ct_callS (As := [.int (nI k)]) (rest := [.ref (q 0)]) X hP hD hS hA (k_X6_isClock l G cI cS cL  (nI k)) cq_X6_isClock aw_973 ⟨Nat.le_of_ble_eq_true rfl, Nat.le_of_ble_eq_true rfl⟩ ([] : List Nat) (cs := []) rfl (by decide) (cs' := []) rfl rfl rfl hl.1 rfl (Nat.le_of_ble_eq_true rfl) dX6_clock_2 ⟨Nat.zero_le _, Nat.zero_le _⟩ rfl (bs' := [mdC q refusal isShot states length at_ good runs did, rwC (q 1) cI 129 now, rwC (q 6) cI 8 group]) rfl (fun H locs hP hD hS => ?_)
  have hM_10 : ∀ (v_9 : Int32) (ls : Array Slot) (H : Heap) (locs : List Loc), v_9 = (if (f_X6_isClock (nI k)) = true then (if (f_X6_in ((nI w).toInt64) (0 : Int64) (10 : Int64)) = true then (0 : Int32) else (2 : Int32)) else (1 : Int32)) → lv_has ls 3 [(0, .ref (q 0)), (1, .int (nI k)), (2, .int (nI w))] → va_P G classes [mdC q refusal isShot states length at_ good runs did, rwC (q 1) cI 129 now, rwC (q 6) cI 8 group].flatten H → va_D A [mdC q refusal isShot states length at_ good runs did, rwC (q 1) cI 129 now, rwC (q 6) cI 8 group].flatten → va_S A s.heap H locs → W p l e ({ frames := 5, cells := 0, slots := 0, locals := 116 } : Room) s m args below meth c H locs 0 0 QQ (F0 m 29 ls [.int v_9, .ref (q 0)]) := by
    intro v_9 ls H locs e_v_9 hl hP hD hS
    subst e_v_9
    refine ct_callV (As := [.int (if (f_X6_isClock (nI k)) = true then (if (f_X6_in ((nI w).toInt64) (0 : Int64) (10 : Int64)) = true then (0 : Int32) else (2 : Int32)) else (1 : Int32))]) (rest := []) X hP hD hS hA (k_X6_refused l G cI cS cL q refusal isShot states length at_ good runs did (if (f_X6_isClock (nI k)) = true then (if (f_X6_in ((nI w).toInt64) (0 : Int64) (10 : Int64)) = true then (0 : Int32) else (2 : Int32)) else (1 : Int32))) cp_X6_refused aw_929 ⟨Nat.le_of_ble_eq_true rfl, Nat.le_of_ble_eq_true rfl⟩ [0] (cs := [mdC q refusal isShot states length at_ good runs did]) rfl (by decide) (cs' := [mdC q ((f_X6_refused (if (f_X6_isClock (nI k)) = true then (if (f_X6_in ((nI w).toInt64) (0 : Int64) (10 : Int64)) = true then (0 : Int32) else (2 : Int32)) else (1 : Int32))).2) isShot states length at_ good runs did]) rfl rfl 4 rfl rfl (q0 := 0) rfl rfl hl.1 rfl (Nat.le_of_ble_eq_true rfl) dX6_clock_29 ⟨Nat.zero_le _, Nat.zero_le _⟩ rfl (bs' := [mdC q ((f_X6_refused (if (f_X6_isClock (nI k)) = true then (if (f_X6_in ((nI w).toInt64) (0 : Int64) (10 : Int64)) = true then (0 : Int32) else (2 : Int32)) else (1 : Int32))).2) isShot states length at_ good runs did, rwC (q 1) cI 129 now, rwC (q 6) cI 8 group]) rfl (fun H locs hP hD hS => ?_)
    refine bv_ifeq hx hb ((f_X6_refused (if (f_X6_isClock (nI k)) = true then (if (f_X6_in ((nI w).toInt64) (0 : Int64) (10 : Int64)) = true then (0 : Int32) else (2 : Int32)) else (1 : Int32))).1) 37 dX6_clock_32 (by decide) (fun c_11 => ?_) (fun c => absurd c hrf)
    refine lv_aload_n hx hb dX6_clock_37 rfl (lv_at hl 0 rfl) ?_
    refine lv_iload_n hx hb dX6_clock_38 rfl (lv_at hl 1 rfl) ?_
    refine lv_iload_n hx hb dX6_clock_39 rfl (lv_at hl 2 rfl) ?_
    refine ct_callV (As := [.int (nI k), .int (nI w)]) (rest := []) X hP hD hS hA (k_X6_tellClock l G cI cS cL q ((f_X6_refused (if (f_X6_isClock (nI k)) = true then (if (f_X6_in ((nI w).toInt64) (0 : Int64) (10 : Int64)) = true then (0 : Int32) else (2 : Int32)) else (1 : Int32))).2) isShot states length at_ good runs did now group k w (by omega) (by omega) hI) cp_X6_tellClock aw_1089 ⟨Nat.le_of_ble_eq_true rfl, Nat.le_of_ble_eq_true rfl⟩ [0, 1, 2] (cs := [mdC q ((f_X6_refused (if (f_X6_isClock (nI k)) = true then (if (f_X6_in ((nI w).toInt64) (0 : Int64) (10 : Int64)) = true then (0 : Int32) else (2 : Int32)) else (1 : Int32))).2) isShot states length at_ good runs did, rwC (q 1) cI 129 now, rwC (q 6) cI 8 group]) rfl (by decide) (cs' := [mdC q ((f_X6_refused (if (f_X6_isClock (nI k)) = true then (if (f_X6_in ((nI w).toInt64) (0 : Int64) (10 : Int64)) = true then (0 : Int32) else (2 : Int32)) else (1 : Int32))).2) isShot states length at_ good runs did, rwC (q 1) cI 129 now, rwC (q 6) cI 8 ((f_X6_tellClock now group k w).2)]) rfl rfl 4 rfl rfl (q0 := 0) rfl rfl hl.1 rfl (Nat.le_of_ble_eq_true rfl) dX6_clock_40 ⟨Nat.zero_le _, Nat.zero_le _⟩ rfl (bs' := [mdC q ((f_X6_refused (if (f_X6_isClock (nI k)) = true then (if (f_X6_in ((nI w).toInt64) (0 : Int64) (10 : Int64)) = true then (0 : Int32) else (2 : Int32)) else (1 : Int32))).2) isShot states length at_ good runs did, rwC (q 1) cI 129 now, rwC (q 6) cI 8 ((f_X6_tellClock now group k w).2)]) rfl (fun H locs hP hD hS => ?_)
    rw [← hQQ]; exact W.iret hx hb hr (ct_end (F := (f_X6_clock now group k w)) (u := ((f_X6_tellClock now group k w).1, (f_X6_refused (if (f_X6_isClock (nI k)) = true then (if (f_X6_in ((nI w).toInt64) (0 : Int64) (10 : Int64)) = true then (0 : Int32) else (2 : Int32)) else (1 : Int32))).2, (f_X6_tellClock now group k w).2)) (rf := (fun u => some (.int u.1))) (wf := (fun u => [mdC q u.2.1 isShot states length at_ good runs did, rwC (q 1) cI 129 now, rwC (q 6) cI 8 u.2.2].flatten)) rfl rfl hP hD hS) hS.2.2 dX6_clock_43
  refine bv_ifne hx hb (f_X6_isClock (nI k)) 12 dX6_clock_5 (by decide) (fun c_1 => ?_) (fun c_1 => ?_)
  · refine lv_iload_n hx hb dX6_clock_12 rfl (lv_at hl 2 rfl) ?_
    refine lv_i2l hx hb dX6_clock_13 rfl ?_
    refine lv_lconst (v := 0) hx hb dX6_clock_14 (by decide) ?_
    refine lv_ldc2 hx hb hown (hw _ aw_1007) dX6_clock_15 ?_
    refine ct_callS (As := [.long ((nI w).toInt64), .long (0 : Int64), .long (10 : Int64)]) (rest := [.ref (q 0)]) X hP hD hS hA (k_X6_in l G cI cS cL  ((nI w).toInt64) (0 : Int64) (10 : Int64)) cq_X6_in aw_926 ⟨Nat.le_of_ble_eq_true rfl, Nat.le_of_ble_eq_true rfl⟩ ([] : List Nat) (cs := []) rfl (by decide) (cs' := []) rfl rfl rfl hl.1 rfl (Nat.le_of_ble_eq_true rfl) dX6_clock_18 ⟨Nat.zero_le _, Nat.zero_le _⟩ rfl (bs' := [mdC q refusal isShot states length at_ good runs did, rwC (q 1) cI 129 now, rwC (q 6) cI 8 group]) rfl (fun H locs hP hD hS => ?_)
    have hM_6 : ∀ (v_5 : Int32) (ls : Array Slot) (H : Heap) (locs : List Loc), v_5 = (if (f_X6_in ((nI w).toInt64) (0 : Int64) (10 : Int64)) = true then (0 : Int32) else (2 : Int32)) → lv_has ls 3 [(0, .ref (q 0)), (1, .int (nI k)), (2, .int (nI w))] → va_P G classes [mdC q refusal isShot states length at_ good runs did, rwC (q 1) cI 129 now, rwC (q 6) cI 8 group].flatten H → va_D A [mdC q refusal isShot states length at_ good runs did, rwC (q 1) cI 129 now, rwC (q 6) cI 8 group].flatten → va_S A s.heap H locs → W p l e ({ frames := 5, cells := 0, slots := 0, locals := 116 } : Room) s m args below meth c H locs 0 0 QQ (F0 m 29 ls [.int v_5, .ref (q 0)]) := by
      intro v_5 ls H locs e_v_5 hl hP hD hS
      subst e_v_5
      exact hM_10 (if (f_X6_in ((nI w).toInt64) (0 : Int64) (10 : Int64)) = true then (0 : Int32) else (2 : Int32)) _ _ _ (if_pos c_1).symm (lv_sub hl [0, 1, 2] rfl) hP hD hS
    refine bv_ifne hx hb (f_X6_in ((nI w).toInt64) (0 : Int64) (10 : Int64)) 28 dX6_clock_21 (by decide) (fun c_2 => ?_) (fun c_2 => ?_)
    · refine lv_iconst (v := 0) hx hb dX6_clock_28 (by decide) ?_
      exact hM_6 (0 : Int32) _ _ _ (if_pos c_2).symm (lv_sub hl [0, 1, 2] rfl) hP hD hS
    · refine lv_iconst (v := 2) hx hb dX6_clock_24 (by decide) ?_
      refine lv_goto (tgt := 29) hx hb dX6_clock_25 (by decide) ?_
      exact hM_6 (2 : Int32) _ _ _ (if_neg c_2).symm (lv_sub hl [0, 1, 2] rfl) hP hD hS
  · refine lv_iconst (v := 1) hx hb dX6_clock_8 (by decide) ?_
    refine lv_goto (tgt := 29) hx hb dX6_clock_9 (by decide) ?_
    exact hM_10 (1 : Int32) _ _ _ (if_neg c_1).symm (lv_sub hl [0, 1, 2] rfl) hP hD hS
set_option maxRecDepth 100000 in
set_option maxHeartbeats 4000000 in
theorem k_X6_clock_R (l : Launch) (G : va_G) (cI cS cL : ClassId) (q : Nat → Nat) (refusal : Int32) (isShot : Bool) (states : Nat) (length : Nat) (at_ : Nat) (good : Bool) (runs : Bool) (did : Int32) (now : Nat → Int32) (group : Nat → Int32) (k : Int32) (w : Int32) (hrf : ((f_X6_refused (if (f_X6_isClock k) = true then (if (f_X6_in w.toInt64 (0 : Int64) (10 : Int64)) = true then (0 : Int32) else (2 : Int32)) else (1 : Int32))).1) = true) : Ct l G (tyl cI cS cL) yX6_clock cX6_clock 3 (some (Jvm.ClassFile.FieldType.int)) 2 45 0 0 [.ref (q 0), .int k, .int w] [mdC q refusal isShot states length at_ good runs did, rwC (q 1) cI 129 now, rwC (q 6) cI 8 group].flatten (f_X6_clock_R k w) (fun u => some (.int u.1)) (fun u => [mdC q u.2 isShot states length at_ good runs did, rwC (q 1) cI 129 now, rwC (q 6) cI 8 group].flatten) := by
  refine Ct.of (by decide +kernel) (Nat.le_of_ble_eq_true rfl) ?_
  intro p e s m args below meth c A ls hx hb hr hml hw hown hlocks hin hK hN hP hD hS hA hl
  have hown : s.vm.findClass RX6 = some m.cls := hown
  have X : Cx p s m args c cX6_clock 3 RX6 G (tyl cI cS cL) := ⟨hx, hb, hml, hown, hw, hK, hN⟩
  have hP : va_P G classes [mdC q refusal isShot states length at_ good runs did, rwC (q 1) cI 129 now, rwC (q 6) cI 8 group].flatten s.heap := hP
  have hl : lv_has ls 3 [(0, .ref (q 0)), (1, .int k), (2, .int w)] := hl
  generalize hQQ : MQ below _ args s 0 0 A = QQ
  refine lv_aload_n hx hb dX6_clock_0 rfl (lv_at hl 0 rfl) ?_
  refine lv_iload_n hx hb dX6_clock_1 rfl (lv_at hl 1 rfl) ?_
  refine ct_callS (As := [.int k]) (rest := [.ref (q 0)]) X hP hD hS hA (k_X6_isClock l G cI cS cL  k) cq_X6_isClock aw_973 ⟨Nat.le_of_ble_eq_true rfl, Nat.le_of_ble_eq_true rfl⟩ ([] : List Nat) (cs := []) rfl (by decide) (cs' := []) rfl rfl rfl hl.1 rfl (Nat.le_of_ble_eq_true rfl) dX6_clock_2 ⟨Nat.zero_le _, Nat.zero_le _⟩ rfl (bs' := [mdC q refusal isShot states length at_ good runs did, rwC (q 1) cI 129 now, rwC (q 6) cI 8 group]) rfl (fun H locs hP hD hS => ?_)
  have hM_10 : ∀ (v_9 : Int32) (ls : Array Slot) (H : Heap) (locs : List Loc), v_9 = (if (f_X6_isClock k) = true then (if (f_X6_in w.toInt64 (0 : Int64) (10 : Int64)) = true then (0 : Int32) else (2 : Int32)) else (1 : Int32)) → lv_has ls 3 [(0, .ref (q 0)), (1, .int k), (2, .int w)] → va_P G classes [mdC q refusal isShot states length at_ good runs did, rwC (q 1) cI 129 now, rwC (q 6) cI 8 group].flatten H → va_D A [mdC q refusal isShot states length at_ good runs did, rwC (q 1) cI 129 now, rwC (q 6) cI 8 group].flatten → va_S A s.heap H locs → W p l e ({ frames := 2, cells := 0, slots := 0, locals := 45 } : Room) s m args below meth c H locs 0 0 QQ (F0 m 29 ls [.int v_9, .ref (q 0)]) := by
    intro v_9 ls H locs e_v_9 hl hP hD hS
    subst e_v_9
    refine ct_callV (As := [.int (if (f_X6_isClock k) = true then (if (f_X6_in w.toInt64 (0 : Int64) (10 : Int64)) = true then (0 : Int32) else (2 : Int32)) else (1 : Int32))]) (rest := []) X hP hD hS hA (k_X6_refused l G cI cS cL q refusal isShot states length at_ good runs did (if (f_X6_isClock k) = true then (if (f_X6_in w.toInt64 (0 : Int64) (10 : Int64)) = true then (0 : Int32) else (2 : Int32)) else (1 : Int32))) cp_X6_refused aw_929 ⟨Nat.le_of_ble_eq_true rfl, Nat.le_of_ble_eq_true rfl⟩ [0] (cs := [mdC q refusal isShot states length at_ good runs did]) rfl (by decide) (cs' := [mdC q ((f_X6_refused (if (f_X6_isClock k) = true then (if (f_X6_in w.toInt64 (0 : Int64) (10 : Int64)) = true then (0 : Int32) else (2 : Int32)) else (1 : Int32))).2) isShot states length at_ good runs did]) rfl rfl 4 rfl rfl (q0 := 0) rfl rfl hl.1 rfl (Nat.le_of_ble_eq_true rfl) dX6_clock_29 ⟨Nat.zero_le _, Nat.zero_le _⟩ rfl (bs' := [mdC q ((f_X6_refused (if (f_X6_isClock k) = true then (if (f_X6_in w.toInt64 (0 : Int64) (10 : Int64)) = true then (0 : Int32) else (2 : Int32)) else (1 : Int32))).2) isShot states length at_ good runs did, rwC (q 1) cI 129 now, rwC (q 6) cI 8 group]) rfl (fun H locs hP hD hS => ?_)
    refine bv_ifeq hx hb ((f_X6_refused (if (f_X6_isClock k) = true then (if (f_X6_in w.toInt64 (0 : Int64) (10 : Int64)) = true then (0 : Int32) else (2 : Int32)) else (1 : Int32))).1) 37 dX6_clock_32 (by decide) (fun c => absurd hrf c) (fun c_11 => ?_)
    refine lv_iconst (v := 0) hx hb dX6_clock_35 (by decide) ?_
    rw [← hQQ]; exact W.iret hx hb hr (ct_end (F := (f_X6_clock_R k w)) (u := ((0 : Int32), (f_X6_refused (if (f_X6_isClock k) = true then (if (f_X6_in w.toInt64 (0 : Int64) (10 : Int64)) = true then (0 : Int32) else (2 : Int32)) else (1 : Int32))).2)) (rf := (fun u => some (.int u.1))) (wf := (fun u => [mdC q u.2 isShot states length at_ good runs did, rwC (q 1) cI 129 now, rwC (q 6) cI 8 group].flatten)) rfl rfl hP hD hS) hS.2.2 dX6_clock_36
  refine bv_ifne hx hb (f_X6_isClock k) 12 dX6_clock_5 (by decide) (fun c_1 => ?_) (fun c_1 => ?_)
  · refine lv_iload_n hx hb dX6_clock_12 rfl (lv_at hl 2 rfl) ?_
    refine lv_i2l hx hb dX6_clock_13 rfl ?_
    refine lv_lconst (v := 0) hx hb dX6_clock_14 (by decide) ?_
    refine lv_ldc2 hx hb hown (hw _ aw_1007) dX6_clock_15 ?_
    refine ct_callS (As := [.long w.toInt64, .long (0 : Int64), .long (10 : Int64)]) (rest := [.ref (q 0)]) X hP hD hS hA (k_X6_in l G cI cS cL  w.toInt64 (0 : Int64) (10 : Int64)) cq_X6_in aw_926 ⟨Nat.le_of_ble_eq_true rfl, Nat.le_of_ble_eq_true rfl⟩ ([] : List Nat) (cs := []) rfl (by decide) (cs' := []) rfl rfl rfl hl.1 rfl (Nat.le_of_ble_eq_true rfl) dX6_clock_18 ⟨Nat.zero_le _, Nat.zero_le _⟩ rfl (bs' := [mdC q refusal isShot states length at_ good runs did, rwC (q 1) cI 129 now, rwC (q 6) cI 8 group]) rfl (fun H locs hP hD hS => ?_)
    have hM_6 : ∀ (v_5 : Int32) (ls : Array Slot) (H : Heap) (locs : List Loc), v_5 = (if (f_X6_in w.toInt64 (0 : Int64) (10 : Int64)) = true then (0 : Int32) else (2 : Int32)) → lv_has ls 3 [(0, .ref (q 0)), (1, .int k), (2, .int w)] → va_P G classes [mdC q refusal isShot states length at_ good runs did, rwC (q 1) cI 129 now, rwC (q 6) cI 8 group].flatten H → va_D A [mdC q refusal isShot states length at_ good runs did, rwC (q 1) cI 129 now, rwC (q 6) cI 8 group].flatten → va_S A s.heap H locs → W p l e ({ frames := 2, cells := 0, slots := 0, locals := 45 } : Room) s m args below meth c H locs 0 0 QQ (F0 m 29 ls [.int v_5, .ref (q 0)]) := by
      intro v_5 ls H locs e_v_5 hl hP hD hS
      subst e_v_5
      exact hM_10 (if (f_X6_in w.toInt64 (0 : Int64) (10 : Int64)) = true then (0 : Int32) else (2 : Int32)) _ _ _ (if_pos c_1).symm (lv_sub hl [0, 1, 2] rfl) hP hD hS
    refine bv_ifne hx hb (f_X6_in w.toInt64 (0 : Int64) (10 : Int64)) 28 dX6_clock_21 (by decide) (fun c_2 => ?_) (fun c_2 => ?_)
    · refine lv_iconst (v := 0) hx hb dX6_clock_28 (by decide) ?_
      exact hM_6 (0 : Int32) _ _ _ (if_pos c_2).symm (lv_sub hl [0, 1, 2] rfl) hP hD hS
    · refine lv_iconst (v := 2) hx hb dX6_clock_24 (by decide) ?_
      refine lv_goto (tgt := 29) hx hb dX6_clock_25 (by decide) ?_
      exact hM_6 (2 : Int32) _ _ _ (if_neg c_2).symm (lv_sub hl [0, 1, 2] rfl) hP hD hS
  · refine lv_iconst (v := 1) hx hb dX6_clock_8 (by decide) ?_
    refine lv_goto (tgt := 29) hx hb dX6_clock_9 (by decide) ?_
    exact hM_10 (1 : Int32) _ _ _ (if_neg c_1).symm (lv_sub hl [0, 1, 2] rfl) hP hD hS
set_option maxRecDepth 100000 in
set_option maxHeartbeats 4000000 in
theorem k_X6_whyNot (l : Launch) (G : va_G) (cI cS cL : ClassId) (q : Nat → Nat) (refusal : Int32) (isShot : Bool) (states : Nat) (length : Nat) (at_ : Nat) (good : Bool) (runs : Bool) (did : Int32) (now : Nat → Int32) (k : Nat) (o : Nat) (hk : k < 8) (ho : o < 8) : Ct l G (tyl cI cS cL) yX6_whyNot cX6_whyNot 3 (some (Jvm.ClassFile.FieldType.int)) 3 65 0 0 [.ref (q 0), .int (nI k), .int (nI o)] [mdC q refusal isShot states length at_ good runs did, rwC (q 1) cI 129 now].flatten (f_X6_whyNot now k o) (fun u => some (.int u)) (fun _ => [mdC q refusal isShot states length at_ good runs did, rwC (q 1) cI 129 now].flatten) := by
  refine Ct.of (by decide +kernel) (Nat.le_of_ble_eq_true rfl) ?_
  intro p e s m args below meth c A ls hx hb hr hml hw hown hlocks hin hK hN hP hD hS hA hl
  have hown : s.vm.findClass RX6 = some m.cls := hown
  have X : Cx p s m args c cX6_whyNot 3 RX6 G (tyl cI cS cL) := ⟨hx, hb, hml, hown, hw, hK, hN⟩
  have hP : va_P G classes [mdC q refusal isShot states length at_ good runs did, rwC (q 1) cI 129 now].flatten s.heap := hP
  have hl : lv_has ls 3 [(0, .ref (q 0)), (1, .int (nI k)), (2, .int (nI o))] := hl
  generalize hQQ : MQ below _ args s 0 0 A = QQ
  refine lv_aload_n hx hb dX6_whyNot_0 rfl (lv_at hl 0 rfl) ?_
  refine va_get (D := G) (ci := 4) (C := RX6) (T := TX6) (N := 15) hx hb hw in_X6 hown hK hP 0 rfl rfl 1 (by decide) (hw _ aw_872) (fun _ h9 => h9) rfl dX6_whyNot_1 ?_
  refine lv_iload_n hx hb dX6_whyNot_4 rfl (lv_at hl 1 rfl) ?_
  refine lv_iload_n hx hb dX6_whyNot_5 rfl (lv_at hl 2 rfl) ?_
  refine ct_callS (As := [.ref (q 1), .int (nI k), .int (nI o)]) (rest := []) X hP hD hS hA (k_X6_isLocked l G cI cS cL (q 1) now k o (by omega) (by omega)) cq_X6_isLocked aw_1097 ⟨Nat.le_of_ble_eq_true rfl, Nat.le_of_ble_eq_true rfl⟩ [1] (cs := [rwC (q 1) cI 129 now]) rfl (by decide) (cs' := [rwC (q 1) cI 129 now]) rfl rfl rfl hl.1 rfl (Nat.le_of_ble_eq_true rfl) dX6_whyNot_6 ⟨Nat.zero_le _, Nat.zero_le _⟩ rfl (bs' := [mdC q refusal isShot states length at_ good runs did, rwC (q 1) cI 129 now]) rfl (fun H locs hP hD hS => ?_)
  refine bv_ifeq hx hb (f_X6_isLocked now k o) 14 dX6_whyNot_9 (by decide) (fun c_1 => ?_) (fun c_1 => ?_)
  · refine lv_aload_n hx hb dX6_whyNot_14 rfl (lv_at hl 0 rfl) ?_
    refine va_get (D := G) (ci := 4) (C := RX6) (T := TX6) (N := 15) hx hb hw in_X6 hown hK hP 0 rfl rfl 1 (by decide) (hw _ aw_872) (fun _ h9 => h9) rfl dX6_whyNot_15 ?_
    refine lv_iload_n hx hb dX6_whyNot_18 rfl (lv_at hl 1 rfl) ?_
    refine ct_callS (As := [.ref (q 1), .int (nI k)]) (rest := []) X hP hD hS hA (k_X6_goes l G cI cS cL (q 1) now k (by omega)) cq_X6_goes aw_948 ⟨Nat.le_of_ble_eq_true rfl, Nat.le_of_ble_eq_true rfl⟩ [1] (cs := [rwC (q 1) cI 129 now]) rfl (by decide) (cs' := [rwC (q 1) cI 129 now]) rfl rfl rfl hl.1 rfl (Nat.le_of_ble_eq_true rfl) dX6_whyNot_19 ⟨Nat.zero_le _, Nat.zero_le _⟩ rfl (bs' := [mdC q refusal isShot states length at_ good runs did, rwC (q 1) cI 129 now]) rfl (fun H locs hP hD hS => ?_)
    refine bv_ifeq hx hb (f_X6_goes now k) 36 dX6_whyNot_22 (by decide) (fun c_2 => ?_) (fun c_2 => ?_)
    · refine lv_iconst (v := 1) hx hb dX6_whyNot_36 (by decide) ?_
      rw [← hQQ]; exact W.iret hx hb hr (ct_end (F := (f_X6_whyNot now k o)) (u := (1 : Int32)) (rf := (fun u => some (.int u))) (wf := (fun _ => [mdC q refusal isShot states length at_ good runs did, rwC (q 1) cI 129 now].flatten)) (by first | (unfold f_X6_whyNot; rw [if_neg c_1, if_neg c_2]; first | done | rfl) | (unfold f_X6_whyNot; simp only [if_neg c_1, if_neg c_2])) rfl hP hD hS) hS.2.2 dX6_whyNot_37
    · refine lv_aload_n hx hb dX6_whyNot_25 rfl (lv_at hl 0 rfl) ?_
      refine va_get (D := G) (ci := 4) (C := RX6) (T := TX6) (N := 15) hx hb hw in_X6 hown hK hP 0 rfl rfl 1 (by decide) (hw _ aw_872) (fun _ h9 => h9) rfl dX6_whyNot_26 ?_
      refine lv_iload_n hx hb dX6_whyNot_29 rfl (lv_at hl 2 rfl) ?_
      refine ct_callS (As := [.ref (q 1), .int (nI o)]) (rest := []) X hP hD hS hA (k_X6_goes l G cI cS cL (q 1) now o (by omega)) cq_X6_goes aw_948 ⟨Nat.le_of_ble_eq_true rfl, Nat.le_of_ble_eq_true rfl⟩ [1] (cs := [rwC (q 1) cI 129 now]) rfl (by decide) (cs' := [rwC (q 1) cI 129 now]) rfl rfl rfl hl.1 rfl (Nat.le_of_ble_eq_true rfl) dX6_whyNot_30 ⟨Nat.zero_le _, Nat.zero_le _⟩ rfl (bs' := [mdC q refusal isShot states length at_ good runs did, rwC (q 1) cI 129 now]) rfl (fun H locs hP hD hS => ?_)
      refine bv_ifne hx hb (f_X6_goes now o) 38 dX6_whyNot_33 (by decide) (fun c_4 => ?_) (fun c_4 => ?_)
      · refine lv_aload_n hx hb dX6_whyNot_38 rfl (lv_at hl 0 rfl) ?_
        refine va_get (D := G) (ci := 4) (C := RX6) (T := TX6) (N := 15) hx hb hw in_X6 hown hK hP 0 rfl rfl 1 (by decide) (hw _ aw_872) (fun _ h9 => h9) rfl dX6_whyNot_39 ?_
        refine lv_iload_n hx hb dX6_whyNot_42 rfl (lv_at hl 1 rfl) ?_
        refine ct_callS (As := [.ref (q 1), .int (nI k)]) (rest := []) X hP hD hS hA (k_X6_beamOf l G cI cS cL (q 1) now k (by omega)) cq_X6_beamOf aw_954 ⟨Nat.le_of_ble_eq_true rfl, Nat.le_of_ble_eq_true rfl⟩ [1] (cs := [rwC (q 1) cI 129 now]) rfl (by decide) (cs' := [rwC (q 1) cI 129 now]) rfl rfl rfl hl.1 rfl (Nat.le_of_ble_eq_true rfl) dX6_whyNot_43 ⟨Nat.zero_le _, Nat.zero_le _⟩ rfl (bs' := [mdC q refusal isShot states length at_ good runs did, rwC (q 1) cI 129 now]) rfl (fun H locs hP hD hS => ?_)
        refine lv_aload_n hx hb dX6_whyNot_46 rfl (lv_at hl 0 rfl) ?_
        refine va_get (D := G) (ci := 4) (C := RX6) (T := TX6) (N := 15) hx hb hw in_X6 hown hK hP 0 rfl rfl 1 (by decide) (hw _ aw_872) (fun _ h9 => h9) rfl dX6_whyNot_47 ?_
        refine lv_iload_n hx hb dX6_whyNot_50 rfl (lv_at hl 2 rfl) ?_
        refine ct_callS (As := [.ref (q 1), .int (nI o)]) (rest := [.int (f_X6_beamOf now k)]) X hP hD hS hA (k_X6_beamOf l G cI cS cL (q 1) now o (by omega)) cq_X6_beamOf aw_954 ⟨Nat.le_of_ble_eq_true rfl, Nat.le_of_ble_eq_true rfl⟩ [1] (cs := [rwC (q 1) cI 129 now]) rfl (by decide) (cs' := [rwC (q 1) cI 129 now]) rfl rfl rfl hl.1 rfl (Nat.le_of_ble_eq_true rfl) dX6_whyNot_51 ⟨Nat.zero_le _, Nat.zero_le _⟩ rfl (bs' := [mdC q refusal isShot states length at_ good runs did, rwC (q 1) cI 129 now]) rfl (fun H locs hP hD hS => ?_)
        have hM_14 : ∀ (v_13 : Int32) (ls : Array Slot) (H : Heap) (locs : List Loc), v_13 = (if (f_X6_beamOf now k) = (f_X6_beamOf now o) then (if (f_X6_isNear now k o) = true then (4 : Int32) else (3 : Int32)) else (2 : Int32)) → lv_has ls 3 [] → va_P G classes [mdC q refusal isShot states length at_ good runs did, rwC (q 1) cI 129 now].flatten H → va_D A [mdC q refusal isShot states length at_ good runs did, rwC (q 1) cI 129 now].flatten → va_S A s.heap H locs → W p l e ({ frames := 3, cells := 0, slots := 0, locals := 65 } : Room) s m args below meth c H locs 0 0 QQ (F0 m 78 ls [.int v_13]) := by
          intro v_13 ls H locs e_v_13 hl hP hD hS
          subst e_v_13
          rw [← hQQ]; exact W.iret hx hb hr (ct_end (F := (f_X6_whyNot now k o)) (u := (if (f_X6_beamOf now k) = (f_X6_beamOf now o) then (if (f_X6_isNear now k o) = true then (4 : Int32) else (3 : Int32)) else (2 : Int32))) (rf := (fun u => some (.int u))) (wf := (fun _ => [mdC q refusal isShot states length at_ good runs did, rwC (q 1) cI 129 now].flatten)) (by first | (unfold f_X6_whyNot; rw [if_neg c_1, if_pos c_2, if_pos c_4]; first | done | rfl) | (unfold f_X6_whyNot; simp only [if_neg c_1, if_pos c_2, if_pos c_4])) rfl hP hD hS) hS.2.2 dX6_whyNot_78
        refine lv_icmp_eq (tgt := 61) hx hb dX6_whyNot_54 (by decide) (fun c_5 => ?_) (fun c_5 => ?_)
        · refine lv_aload_n hx hb dX6_whyNot_61 rfl (lv_at hl 0 rfl) ?_
          refine va_get (D := G) (ci := 4) (C := RX6) (T := TX6) (N := 15) hx hb hw in_X6 hown hK hP 0 rfl rfl 1 (by decide) (hw _ aw_872) (fun _ h9 => h9) rfl dX6_whyNot_62 ?_
          refine lv_iload_n hx hb dX6_whyNot_65 rfl (lv_at hl 1 rfl) ?_
          refine lv_iload_n hx hb dX6_whyNot_66 rfl (lv_at hl 2 rfl) ?_
          refine ct_callS (As := [.ref (q 1), .int (nI k), .int (nI o)]) (rest := []) X hP hD hS hA (k_X6_isNear l G cI cS cL (q 1) now k o (by omega) (by omega)) cq_X6_isNear aw_963 ⟨Nat.le_of_ble_eq_true rfl, Nat.le_of_ble_eq_true rfl⟩ [1] (cs := [rwC (q 1) cI 129 now]) rfl (by decide) (cs' := [rwC (q 1) cI 129 now]) rfl rfl rfl hl.1 rfl (Nat.le_of_ble_eq_true rfl) dX6_whyNot_67 ⟨Nat.zero_le _, Nat.zero_le _⟩ rfl (bs' := [mdC q refusal isShot states length at_ good runs did, rwC (q 1) cI 129 now]) rfl (fun H locs hP hD hS => ?_)
          have hM_10 : ∀ (v_9 : Int32) (ls : Array Slot) (H : Heap) (locs : List Loc), v_9 = (if (f_X6_isNear now k o) = true then (4 : Int32) else (3 : Int32)) → lv_has ls 3 [] → va_P G classes [mdC q refusal isShot states length at_ good runs did, rwC (q 1) cI 129 now].flatten H → va_D A [mdC q refusal isShot states length at_ good runs did, rwC (q 1) cI 129 now].flatten → va_S A s.heap H locs → W p l e ({ frames := 3, cells := 0, slots := 0, locals := 65 } : Room) s m args below meth c H locs 0 0 QQ (F0 m 78 ls [.int v_9]) := by
            intro v_9 ls H locs e_v_9 hl hP hD hS
            subst e_v_9
            exact hM_14 (if (f_X6_isNear now k o) = true then (4 : Int32) else (3 : Int32)) _ _ _ (if_pos c_5).symm (lv_sub hl [] rfl) hP hD hS
          refine bv_ifne hx hb (f_X6_isNear now k o) 77 dX6_whyNot_70 (by decide) (fun c_6 => ?_) (fun c_6 => ?_)
          · refine lv_iconst (v := 4) hx hb dX6_whyNot_77 (by decide) ?_
            exact hM_10 (4 : Int32) _ _ _ (if_pos c_6).symm (lv_sub hl [] rfl) hP hD hS
          · refine lv_iconst (v := 3) hx hb dX6_whyNot_73 (by decide) ?_
            refine lv_goto (tgt := 78) hx hb dX6_whyNot_74 (by decide) ?_
            exact hM_10 (3 : Int32) _ _ _ (if_neg c_6).symm (lv_sub hl [] rfl) hP hD hS
        · refine lv_iconst (v := 2) hx hb dX6_whyNot_57 (by decide) ?_
          refine lv_goto (tgt := 78) hx hb dX6_whyNot_58 (by decide) ?_
          exact hM_14 (2 : Int32) _ _ _ (if_neg c_5).symm (lv_sub hl [] rfl) hP hD hS
      · refine lv_iconst (v := 1) hx hb dX6_whyNot_36 (by decide) ?_
        rw [← hQQ]; exact W.iret hx hb hr (ct_end (F := (f_X6_whyNot now k o)) (u := (1 : Int32)) (rf := (fun u => some (.int u))) (wf := (fun _ => [mdC q refusal isShot states length at_ good runs did, rwC (q 1) cI 129 now].flatten)) (by first | (unfold f_X6_whyNot; rw [if_neg c_1, if_pos c_2, if_neg c_4]; first | done | rfl) | (unfold f_X6_whyNot; simp only [if_neg c_1, if_pos c_2, if_neg c_4])) rfl hP hD hS) hS.2.2 dX6_whyNot_37
  · refine lv_iconst (v := 0) hx hb dX6_whyNot_12 (by decide) ?_
    rw [← hQQ]; exact W.iret hx hb hr (ct_end (F := (f_X6_whyNot now k o)) (u := (0 : Int32)) (rf := (fun u => some (.int u))) (wf := (fun _ => [mdC q refusal isShot states length at_ good runs did, rwC (q 1) cI 129 now].flatten)) (by first | (unfold f_X6_whyNot; rw [if_pos c_1]; first | done | rfl) | (unfold f_X6_whyNot; simp only [if_pos c_1])) rfl hP hD hS) hS.2.2 dX6_whyNot_13
set_option maxRecDepth 100000 in
set_option maxHeartbeats 4000000 in
theorem k_X6_tellPair (l : Launch) (G : va_G) (cI cS cL : ClassId) (q : Nat → Nat) (refusal : Int32) (isShot : Bool) (states : Nat) (length : Nat) (at_ : Nat) (good : Bool) (runs : Bool) (did : Int32) (now : Nat → Int32) (k : Nat) (o : Nat) (w : Int32) (hk : k < 8) (ho : o < 8) : Ct l G (tyl cI cS cL) yX6_tellPair cX6_tellPair 4 (some (Jvm.ClassFile.FieldType.int)) 4 87 0 0 [.ref (q 0), .int (nI k), .int (nI o), .int w] [mdC q refusal isShot states length at_ good runs did, rwC (q 1) cI 129 now].flatten (f_X6_tellPair now k o w) (fun u => some (.int u)) (fun _ => [mdC q refusal isShot states length at_ good runs did, rwC (q 1) cI 129 now].flatten) := by
  refine Ct.of (by decide +kernel) (Nat.le_of_ble_eq_true rfl) ?_
  intro p e s m args below meth c A ls hx hb hr hml hw hown hlocks hin hK hN hP hD hS hA hl
  have hown : s.vm.findClass RX6 = some m.cls := hown
  have X : Cx p s m args c cX6_tellPair 4 RX6 G (tyl cI cS cL) := ⟨hx, hb, hml, hown, hw, hK, hN⟩
  have hP : va_P G classes [mdC q refusal isShot states length at_ good runs did, rwC (q 1) cI 129 now].flatten s.heap := hP
  have hl : lv_has ls 4 [(0, .ref (q 0)), (1, .int (nI k)), (2, .int (nI o)), (3, .int w)] := hl
  generalize hQQ : MQ below _ args s 0 0 A = QQ
  refine lv_iload_n hx hb dX6_tellPair_0 rfl (lv_at hl 3 rfl) ?_
  have hM_10 : ∀ (v_9 : Int32) (ls : Array Slot) (H : Heap) (locs : List Loc), v_9 = (if w = 0 then (f_X6_gap now k o) else (if w = (1 : Int32) then (now (f_X6_near k o)) else (f_X6_whyNot now k o))) → lv_has ls 4 [] → va_P G classes [mdC q refusal isShot states length at_ good runs did, rwC (q 1) cI 129 now].flatten H → va_D A [mdC q refusal isShot states length at_ good runs did, rwC (q 1) cI 129 now].flatten → va_S A s.heap H locs → W p l e ({ frames := 4, cells := 0, slots := 0, locals := 87 } : Room) s m args below meth c H locs 0 0 QQ (F0 m 40 ls [.int v_9]) := by
    intro v_9 ls H locs e_v_9 hl hP hD hS
    subst e_v_9
    rw [← hQQ]; exact W.iret hx hb hr (ct_end (F := (f_X6_tellPair now k o w)) (u := (if w = 0 then (f_X6_gap now k o) else (if w = (1 : Int32) then (now (f_X6_near k o)) else (f_X6_whyNot now k o)))) (rf := (fun u => some (.int u))) (wf := (fun _ => [mdC q refusal isShot states length at_ good runs did, rwC (q 1) cI 129 now].flatten)) rfl rfl hP hD hS) hS.2.2 dX6_tellPair_40
  refine iv_ifne hx hb 16 dX6_tellPair_1 (by decide) (fun c_1 => ?_) (fun c_1 => ?_)
  · refine lv_iload_n hx hb dX6_tellPair_16 rfl (lv_at hl 3 rfl) ?_
    refine lv_iconst (v := 1) hx hb dX6_tellPair_17 (by decide) ?_
    have hM_6 : ∀ (v_5 : Int32) (ls : Array Slot) (H : Heap) (locs : List Loc), v_5 = (if w = (1 : Int32) then (now (f_X6_near k o)) else (f_X6_whyNot now k o)) → lv_has ls 4 [] → va_P G classes [mdC q refusal isShot states length at_ good runs did, rwC (q 1) cI 129 now].flatten H → va_D A [mdC q refusal isShot states length at_ good runs did, rwC (q 1) cI 129 now].flatten → va_S A s.heap H locs → W p l e ({ frames := 4, cells := 0, slots := 0, locals := 87 } : Room) s m args below meth c H locs 0 0 QQ (F0 m 40 ls [.int v_5]) := by
      intro v_5 ls H locs e_v_5 hl hP hD hS
      subst e_v_5
      exact hM_10 (if w = (1 : Int32) then (now (f_X6_near k o)) else (f_X6_whyNot now k o)) _ _ _ (if_neg c_1).symm (lv_sub hl [] rfl) hP hD hS
    refine iv_ne hx hb 34 dX6_tellPair_18 (by decide) (fun c_2 => ?_) (fun c_2 => ?_)
    · refine lv_aload_n hx hb dX6_tellPair_34 rfl (lv_at hl 0 rfl) ?_
      refine lv_iload_n hx hb dX6_tellPair_35 rfl (lv_at hl 1 rfl) ?_
      refine lv_iload_n hx hb dX6_tellPair_36 rfl (lv_at hl 2 rfl) ?_
      refine ct_callV (As := [.int (nI k), .int (nI o)]) (rest := []) X hP hD hS hA (k_X6_whyNot l G cI cS cL q refusal isShot states length at_ good runs did now k o (by omega) (by omega)) cp_X6_whyNot aw_1119 ⟨Nat.le_of_ble_eq_true rfl, Nat.le_of_ble_eq_true rfl⟩ [0, 1] (cs := [mdC q refusal isShot states length at_ good runs did, rwC (q 1) cI 129 now]) rfl (by decide) (cs' := [mdC q refusal isShot states length at_ good runs did, rwC (q 1) cI 129 now]) rfl rfl 4 rfl rfl (q0 := 0) rfl rfl hl.1 rfl (Nat.le_of_ble_eq_true rfl) dX6_tellPair_37 ⟨Nat.zero_le _, Nat.zero_le _⟩ rfl (bs' := [mdC q refusal isShot states length at_ good runs did, rwC (q 1) cI 129 now]) rfl (fun H locs hP hD hS => ?_)
      exact hM_6 (f_X6_whyNot now k o) _ _ _ (if_neg c_2).symm (lv_sub hl [] rfl) hP hD hS
    · refine lv_aload_n hx hb dX6_tellPair_21 rfl (lv_at hl 0 rfl) ?_
      refine va_get (D := G) (ci := 4) (C := RX6) (T := TX6) (N := 15) hx hb hw in_X6 hown hK hP 0 rfl rfl 1 (by decide) (hw _ aw_872) (fun _ h9 => h9) rfl dX6_tellPair_22 ?_
      refine lv_iload_n hx hb dX6_tellPair_25 rfl (lv_at hl 1 rfl) ?_
      refine lv_iload_n hx hb dX6_tellPair_26 rfl (lv_at hl 2 rfl) ?_
      refine ct_callS (As := [.int (nI k), .int (nI o)]) (rest := [.ref (q 1)]) X hP hD hS hA (k_X6_near l G cI cS cL  k o (by omega) (by omega)) cq_X6_near aw_960 ⟨Nat.le_of_ble_eq_true rfl, Nat.le_of_ble_eq_true rfl⟩ ([] : List Nat) (cs := []) rfl (by decide) (cs' := []) rfl rfl rfl hl.1 rfl (Nat.le_of_ble_eq_true rfl) dX6_tellPair_27 ⟨Nat.zero_le _, Nat.zero_le _⟩ rfl (bs' := [mdC q refusal isShot states length at_ good runs did, rwC (q 1) cI 129 now]) rfl (fun H locs hP hD hS => ?_)
      refine nv_iald hx hb hK hP 1 0 rfl rfl (f_X6_near k o) (by first | omega | exact near_lt (by omega) (by omega)) (by decide) dX6_tellPair_30 ?_
      refine lv_goto (tgt := 40) hx hb dX6_tellPair_31 (by decide) ?_
      exact hM_6 (now (f_X6_near k o)) _ _ _ (if_pos c_2).symm (lv_sub hl [] rfl) hP hD hS
  · refine lv_aload_n hx hb dX6_tellPair_4 rfl (lv_at hl 0 rfl) ?_
    refine va_get (D := G) (ci := 4) (C := RX6) (T := TX6) (N := 15) hx hb hw in_X6 hown hK hP 0 rfl rfl 1 (by decide) (hw _ aw_872) (fun _ h9 => h9) rfl dX6_tellPair_5 ?_
    refine lv_iload_n hx hb dX6_tellPair_8 rfl (lv_at hl 1 rfl) ?_
    refine lv_iload_n hx hb dX6_tellPair_9 rfl (lv_at hl 2 rfl) ?_
    refine ct_callS (As := [.ref (q 1), .int (nI k), .int (nI o)]) (rest := []) X hP hD hS hA (k_X6_gap l G cI cS cL (q 1) now k o (by omega) (by omega)) cq_X6_gap aw_957 ⟨Nat.le_of_ble_eq_true rfl, Nat.le_of_ble_eq_true rfl⟩ [1] (cs := [rwC (q 1) cI 129 now]) rfl (by decide) (cs' := [rwC (q 1) cI 129 now]) rfl rfl rfl hl.1 rfl (Nat.le_of_ble_eq_true rfl) dX6_tellPair_10 ⟨Nat.zero_le _, Nat.zero_le _⟩ rfl (bs' := [mdC q refusal isShot states length at_ good runs did, rwC (q 1) cI 129 now]) rfl (fun H locs hP hD hS => ?_)
    refine lv_goto (tgt := 40) hx hb dX6_tellPair_13 (by decide) ?_
    exact hM_10 (f_X6_gap now k o) _ _ _ (if_pos c_1).symm (lv_sub hl [] rfl) hP hD hS
set_option maxRecDepth 100000 in
set_option maxHeartbeats 4000000 in
theorem k_X6_isPair (l : Launch) (G : va_G) (cI cS cL : ClassId) (k : Int32) (o : Int32) : Ct l G (tyl cI cS cL) yX6_isPair cX6_isPair 2 (some (Jvm.ClassFile.FieldType.boolean)) 2 45 0 0 [.int k, .int o] [].flatten (f_X6_isPair k o) (fun u => some (.int (bI u))) (fun _ => [].flatten) := by
  refine Ct.of (by decide +kernel) (Nat.le_of_ble_eq_true rfl) ?_
  intro p e s m args below meth c A ls hx hb hr hml hw hown hlocks hin hK hN hP hD hS hA hl
  have hown : s.vm.findClass RX6 = some m.cls := hown
  have X : Cx p s m args c cX6_isPair 2 RX6 G (tyl cI cS cL) := ⟨hx, hb, hml, hown, hw, hK, hN⟩
  have hP : va_P G classes [].flatten s.heap := hP
  have hl : lv_has ls 2 [(0, .int k), (1, .int o)] := hl
  generalize hQQ : MQ below _ args s 0 0 A = QQ
  refine lv_iload_n hx hb dX6_isPair_0 rfl (lv_at hl 0 rfl) ?_
  refine ct_callS (As := [.int k]) (rest := []) X hP hD hS hA (k_X6_isClock l G cI cS cL  k) cq_X6_isClock aw_973 ⟨Nat.le_of_ble_eq_true rfl, Nat.le_of_ble_eq_true rfl⟩ ([] : List Nat) (cs := []) rfl (by decide) (cs' := []) rfl rfl rfl hl.1 rfl (Nat.le_of_ble_eq_true rfl) dX6_isPair_1 ⟨Nat.zero_le _, Nat.zero_le _⟩ rfl (bs' := []) rfl (fun H locs hP hD hS => ?_)
  have hM_15 : ∀ (v_14 : Bool) (ls : Array Slot) (H : Heap) (locs : List Loc), v_14 = (if (f_X6_isClock k) = true then (if (f_X6_isClock o) = true then (if k = o then false else true) else false) else false) → lv_has ls 2 [] → va_P G classes [].flatten H → va_D A [].flatten → va_S A s.heap H locs → W p l e ({ frames := 2, cells := 0, slots := 0, locals := 45 } : Room) s m args below meth c H locs 0 0 QQ (F0 m 24 ls [.int (bI v_14)]) := by
    intro v_14 ls H locs e_v_14 hl hP hD hS
    subst e_v_14
    rw [← hQQ]; exact W.zret (v := bI (if (f_X6_isClock k) = true then (if (f_X6_isClock o) = true then (if k = o then false else true) else false) else false)) hx hb hr (nar_b _) (ct_end (F := (f_X6_isPair k o)) (u := (if (f_X6_isClock k) = true then (if (f_X6_isClock o) = true then (if k = o then false else true) else false) else false)) (rf := (fun u => some (.int (bI u)))) (wf := (fun _ => [].flatten)) rfl rfl hP hD hS) hS.2.2 dX6_isPair_24
  refine bv_ifeq hx hb (f_X6_isClock k) 23 dX6_isPair_4 (by decide) (fun c_1 => ?_) (fun c_1 => ?_)
  · refine lv_iconst (v := 0) hx hb dX6_isPair_23 (by decide) ?_
    exact hM_15 false _ _ _ (if_neg c_1).symm (lv_sub hl [] rfl) hP hD hS
  · refine lv_iload_n hx hb dX6_isPair_7 rfl (lv_at hl 1 rfl) ?_
    refine ct_callS (As := [.int o]) (rest := []) X hP hD hS hA (k_X6_isClock l G cI cS cL  o) cq_X6_isClock aw_973 ⟨Nat.le_of_ble_eq_true rfl, Nat.le_of_ble_eq_true rfl⟩ ([] : List Nat) (cs := []) rfl (by decide) (cs' := []) rfl rfl rfl hl.1 rfl (Nat.le_of_ble_eq_true rfl) dX6_isPair_8 ⟨Nat.zero_le _, Nat.zero_le _⟩ rfl (bs' := []) rfl (fun H locs hP hD hS => ?_)
    have hM_12 : ∀ (v_11 : Bool) (ls : Array Slot) (H : Heap) (locs : List Loc), v_11 = (if (f_X6_isClock o) = true then (if k = o then false else true) else false) → lv_has ls 2 [] → va_P G classes [].flatten H → va_D A [].flatten → va_S A s.heap H locs → W p l e ({ frames := 2, cells := 0, slots := 0, locals := 45 } : Room) s m args below meth c H locs 0 0 QQ (F0 m 24 ls [.int (bI v_11)]) := by
      intro v_11 ls H locs e_v_11 hl hP hD hS
      subst e_v_11
      exact hM_15 (if (f_X6_isClock o) = true then (if k = o then false else true) else false) _ _ _ (if_pos c_1).symm (lv_sub hl [] rfl) hP hD hS
    refine bv_ifeq hx hb (f_X6_isClock o) 23 dX6_isPair_11 (by decide) (fun c_3 => ?_) (fun c_3 => ?_)
    · refine lv_iconst (v := 0) hx hb dX6_isPair_23 (by decide) ?_
      exact hM_12 false _ _ _ (if_neg c_3).symm (lv_sub hl [] rfl) hP hD hS
    · refine lv_iload_n hx hb dX6_isPair_14 rfl (lv_at hl 0 rfl) ?_
      refine lv_iload_n hx hb dX6_isPair_15 rfl (lv_at hl 1 rfl) ?_
      have hM_9 : ∀ (v_8 : Bool) (ls : Array Slot) (H : Heap) (locs : List Loc), v_8 = (if k = o then false else true) → lv_has ls 2 [] → va_P G classes [].flatten H → va_D A [].flatten → va_S A s.heap H locs → W p l e ({ frames := 2, cells := 0, slots := 0, locals := 45 } : Room) s m args below meth c H locs 0 0 QQ (F0 m 24 ls [.int (bI v_8)]) := by
        intro v_8 ls H locs e_v_8 hl hP hD hS
        subst e_v_8
        exact hM_12 (if k = o then false else true) _ _ _ (if_pos c_3).symm (lv_sub hl [] rfl) hP hD hS
      refine lv_icmp_eq (tgt := 23) hx hb dX6_isPair_16 (by decide) (fun c_5 => ?_) (fun c_5 => ?_)
      · refine lv_iconst (v := 0) hx hb dX6_isPair_23 (by decide) ?_
        exact hM_9 false _ _ _ (if_pos c_5).symm (lv_sub hl [] rfl) hP hD hS
      · refine lv_iconst (v := 1) hx hb dX6_isPair_19 (by decide) ?_
        refine lv_goto (tgt := 24) hx hb dX6_isPair_20 (by decide) ?_
        exact hM_9 true _ _ _ (if_neg c_5).symm (lv_sub hl [] rfl) hP hD hS
set_option maxRecDepth 100000 in
set_option maxHeartbeats 4000000 in
theorem k_X6_pair (l : Launch) (G : va_G) (cI cS cL : ClassId) (q : Nat → Nat) (refusal : Int32) (isShot : Bool) (states : Nat) (length : Nat) (at_ : Nat) (good : Bool) (runs : Bool) (did : Int32) (now : Nat → Int32) (k : Nat) (o : Nat) (w : Int32) (hk : k < 8) (ho : o < 8) (hrf : ¬ (((f_X6_refused (if (f_X6_isPair (nI k) (nI o)) = true then (if (f_X6_in w.toInt64 (0 : Int64) (2 : Int64)) = true then (0 : Int32) else (2 : Int32)) else (1 : Int32))).1) = true)) : Ct l G (tyl cI cS cL) yX6_pair cX6_pair 4 (some (Jvm.ClassFile.FieldType.int)) 5 110 0 0 [.ref (q 0), .int (nI k), .int (nI o), .int w] [mdC q refusal isShot states length at_ good runs did, rwC (q 1) cI 129 now].flatten (f_X6_pair now k o w) (fun u => some (.int u.1)) (fun u => [mdC q u.2 isShot states length at_ good runs did, rwC (q 1) cI 129 now].flatten) := by
  refine Ct.of (by decide +kernel) (Nat.le_of_ble_eq_true rfl) ?_
  intro p e s m args below meth c A ls hx hb hr hml hw hown hlocks hin hK hN hP hD hS hA hl
  have hown : s.vm.findClass RX6 = some m.cls := hown
  have X : Cx p s m args c cX6_pair 4 RX6 G (tyl cI cS cL) := ⟨hx, hb, hml, hown, hw, hK, hN⟩
  have hP : va_P G classes [mdC q refusal isShot states length at_ good runs did, rwC (q 1) cI 129 now].flatten s.heap := hP
  have hl : lv_has ls 4 [(0, .ref (q 0)), (1, .int (nI k)), (2, .int (nI o)), (3, .int w)] := hl
  generalize hQQ : MQ below _ args s 0 0 A = QQ
  refine lv_aload_n hx hb dX6_pair_0 rfl (lv_at hl 0 rfl) ?_
  refine lv_iload_n hx hb dX6_pair_1 rfl (lv_at hl 1 rfl) ?_
  refine lv_iload_n hx hb dX6_pair_2 rfl (lv_at hl 2 rfl) ?_
  refine ct_callS (As := [.int (nI k), .int (nI o)]) (rest := [.ref (q 0)]) X hP hD hS hA (k_X6_isPair l G cI cS cL  (nI k) (nI o)) cq_X6_isPair aw_1112 ⟨Nat.le_of_ble_eq_true rfl, Nat.le_of_ble_eq_true rfl⟩ ([] : List Nat) (cs := []) rfl (by decide) (cs' := []) rfl rfl rfl hl.1 rfl (Nat.le_of_ble_eq_true rfl) dX6_pair_3 ⟨Nat.zero_le _, Nat.zero_le _⟩ rfl (bs' := [mdC q refusal isShot states length at_ good runs did, rwC (q 1) cI 129 now]) rfl (fun H locs hP hD hS => ?_)
  have hM_10 : ∀ (v_9 : Int32) (ls : Array Slot) (H : Heap) (locs : List Loc), v_9 = (if (f_X6_isPair (nI k) (nI o)) = true then (if (f_X6_in w.toInt64 (0 : Int64) (2 : Int64)) = true then (0 : Int32) else (2 : Int32)) else (1 : Int32)) → lv_has ls 4 [(0, .ref (q 0)), (1, .int (nI k)), (2, .int (nI o)), (3, .int w)] → va_P G classes [mdC q refusal isShot states length at_ good runs did, rwC (q 1) cI 129 now].flatten H → va_D A [mdC q refusal isShot states length at_ good runs did, rwC (q 1) cI 129 now].flatten → va_S A s.heap H locs → W p l e ({ frames := 5, cells := 0, slots := 0, locals := 110 } : Room) s m args below meth c H locs 0 0 QQ (F0 m 30 ls [.int v_9, .ref (q 0)]) := by
    intro v_9 ls H locs e_v_9 hl hP hD hS
    subst e_v_9
    refine ct_callV (As := [.int (if (f_X6_isPair (nI k) (nI o)) = true then (if (f_X6_in w.toInt64 (0 : Int64) (2 : Int64)) = true then (0 : Int32) else (2 : Int32)) else (1 : Int32))]) (rest := []) X hP hD hS hA (k_X6_refused l G cI cS cL q refusal isShot states length at_ good runs did (if (f_X6_isPair (nI k) (nI o)) = true then (if (f_X6_in w.toInt64 (0 : Int64) (2 : Int64)) = true then (0 : Int32) else (2 : Int32)) else (1 : Int32))) cp_X6_refused aw_929 ⟨Nat.le_of_ble_eq_true rfl, Nat.le_of_ble_eq_true rfl⟩ [0] (cs := [mdC q refusal isShot states length at_ good runs did]) rfl (by decide) (cs' := [mdC q ((f_X6_refused (if (f_X6_isPair (nI k) (nI o)) = true then (if (f_X6_in w.toInt64 (0 : Int64) (2 : Int64)) = true then (0 : Int32) else (2 : Int32)) else (1 : Int32))).2) isShot states length at_ good runs did]) rfl rfl 4 rfl rfl (q0 := 0) rfl rfl hl.1 rfl (Nat.le_of_ble_eq_true rfl) dX6_pair_30 ⟨Nat.zero_le _, Nat.zero_le _⟩ rfl (bs' := [mdC q ((f_X6_refused (if (f_X6_isPair (nI k) (nI o)) = true then (if (f_X6_in w.toInt64 (0 : Int64) (2 : Int64)) = true then (0 : Int32) else (2 : Int32)) else (1 : Int32))).2) isShot states length at_ good runs did, rwC (q 1) cI 129 now]) rfl (fun H locs hP hD hS => ?_)
    refine bv_ifeq hx hb ((f_X6_refused (if (f_X6_isPair (nI k) (nI o)) = true then (if (f_X6_in w.toInt64 (0 : Int64) (2 : Int64)) = true then (0 : Int32) else (2 : Int32)) else (1 : Int32))).1) 38 dX6_pair_33 (by decide) (fun c_11 => ?_) (fun c => absurd c hrf)
    refine lv_aload_n hx hb dX6_pair_38 rfl (lv_at hl 0 rfl) ?_
    refine lv_iload_n hx hb dX6_pair_39 rfl (lv_at hl 1 rfl) ?_
    refine lv_iload_n hx hb dX6_pair_40 rfl (lv_at hl 2 rfl) ?_
    refine lv_iload_n hx hb dX6_pair_41 rfl (lv_at hl 3 rfl) ?_
    refine ct_callV (As := [.int (nI k), .int (nI o), .int w]) (rest := []) X hP hD hS hA (k_X6_tellPair l G cI cS cL q ((f_X6_refused (if (f_X6_isPair (nI k) (nI o)) = true then (if (f_X6_in w.toInt64 (0 : Int64) (2 : Int64)) = true then (0 : Int32) else (2 : Int32)) else (1 : Int32))).2) isShot states length at_ good runs did now k o w (by omega) (by omega)) cp_X6_tellPair aw_1115 ⟨Nat.le_of_ble_eq_true rfl, Nat.le_of_ble_eq_true rfl⟩ [0, 1] (cs := [mdC q ((f_X6_refused (if (f_X6_isPair (nI k) (nI o)) = true then (if (f_X6_in w.toInt64 (0 : Int64) (2 : Int64)) = true then (0 : Int32) else (2 : Int32)) else (1 : Int32))).2) isShot states length at_ good runs did, rwC (q 1) cI 129 now]) rfl (by decide) (cs' := [mdC q ((f_X6_refused (if (f_X6_isPair (nI k) (nI o)) = true then (if (f_X6_in w.toInt64 (0 : Int64) (2 : Int64)) = true then (0 : Int32) else (2 : Int32)) else (1 : Int32))).2) isShot states length at_ good runs did, rwC (q 1) cI 129 now]) rfl rfl 4 rfl rfl (q0 := 0) rfl rfl hl.1 rfl (Nat.le_of_ble_eq_true rfl) dX6_pair_42 ⟨Nat.zero_le _, Nat.zero_le _⟩ rfl (bs' := [mdC q ((f_X6_refused (if (f_X6_isPair (nI k) (nI o)) = true then (if (f_X6_in w.toInt64 (0 : Int64) (2 : Int64)) = true then (0 : Int32) else (2 : Int32)) else (1 : Int32))).2) isShot states length at_ good runs did, rwC (q 1) cI 129 now]) rfl (fun H locs hP hD hS => ?_)
    rw [← hQQ]; exact W.iret hx hb hr (ct_end (F := (f_X6_pair now k o w)) (u := ((f_X6_tellPair now k o w), (f_X6_refused (if (f_X6_isPair (nI k) (nI o)) = true then (if (f_X6_in w.toInt64 (0 : Int64) (2 : Int64)) = true then (0 : Int32) else (2 : Int32)) else (1 : Int32))).2)) (rf := (fun u => some (.int u.1))) (wf := (fun u => [mdC q u.2 isShot states length at_ good runs did, rwC (q 1) cI 129 now].flatten)) rfl rfl hP hD hS) hS.2.2 dX6_pair_45
  refine bv_ifne hx hb (f_X6_isPair (nI k) (nI o)) 13 dX6_pair_6 (by decide) (fun c_1 => ?_) (fun c_1 => ?_)
  · refine lv_iload_n hx hb dX6_pair_13 rfl (lv_at hl 3 rfl) ?_
    refine lv_i2l hx hb dX6_pair_14 rfl ?_
    refine lv_lconst (v := 0) hx hb dX6_pair_15 (by decide) ?_
    refine lv_ldc2 hx hb hown (hw _ aw_990) dX6_pair_16 ?_
    refine ct_callS (As := [.long w.toInt64, .long (0 : Int64), .long (2 : Int64)]) (rest := [.ref (q 0)]) X hP hD hS hA (k_X6_in l G cI cS cL  w.toInt64 (0 : Int64) (2 : Int64)) cq_X6_in aw_926 ⟨Nat.le_of_ble_eq_true rfl, Nat.le_of_ble_eq_true rfl⟩ ([] : List Nat) (cs := []) rfl (by decide) (cs' := []) rfl rfl rfl hl.1 rfl (Nat.le_of_ble_eq_true rfl) dX6_pair_19 ⟨Nat.zero_le _, Nat.zero_le _⟩ rfl (bs' := [mdC q refusal isShot states length at_ good runs did, rwC (q 1) cI 129 now]) rfl (fun H locs hP hD hS => ?_)
    have hM_6 : ∀ (v_5 : Int32) (ls : Array Slot) (H : Heap) (locs : List Loc), v_5 = (if (f_X6_in w.toInt64 (0 : Int64) (2 : Int64)) = true then (0 : Int32) else (2 : Int32)) → lv_has ls 4 [(0, .ref (q 0)), (1, .int (nI k)), (2, .int (nI o)), (3, .int w)] → va_P G classes [mdC q refusal isShot states length at_ good runs did, rwC (q 1) cI 129 now].flatten H → va_D A [mdC q refusal isShot states length at_ good runs did, rwC (q 1) cI 129 now].flatten → va_S A s.heap H locs → W p l e ({ frames := 5, cells := 0, slots := 0, locals := 110 } : Room) s m args below meth c H locs 0 0 QQ (F0 m 30 ls [.int v_5, .ref (q 0)]) := by
      intro v_5 ls H locs e_v_5 hl hP hD hS
      subst e_v_5
      exact hM_10 (if (f_X6_in w.toInt64 (0 : Int64) (2 : Int64)) = true then (0 : Int32) else (2 : Int32)) _ _ _ (if_pos c_1).symm (lv_sub hl [0, 1, 2, 3] rfl) hP hD hS
    refine bv_ifne hx hb (f_X6_in w.toInt64 (0 : Int64) (2 : Int64)) 29 dX6_pair_22 (by decide) (fun c_2 => ?_) (fun c_2 => ?_)
    · refine lv_iconst (v := 0) hx hb dX6_pair_29 (by decide) ?_
      exact hM_6 (0 : Int32) _ _ _ (if_pos c_2).symm (lv_sub hl [0, 1, 2, 3] rfl) hP hD hS
    · refine lv_iconst (v := 2) hx hb dX6_pair_25 (by decide) ?_
      refine lv_goto (tgt := 30) hx hb dX6_pair_26 (by decide) ?_
      exact hM_6 (2 : Int32) _ _ _ (if_neg c_2).symm (lv_sub hl [0, 1, 2, 3] rfl) hP hD hS
  · refine lv_iconst (v := 1) hx hb dX6_pair_9 (by decide) ?_
    refine lv_goto (tgt := 30) hx hb dX6_pair_10 (by decide) ?_
    exact hM_10 (1 : Int32) _ _ _ (if_neg c_1).symm (lv_sub hl [0, 1, 2, 3] rfl) hP hD hS
set_option maxRecDepth 100000 in
set_option maxHeartbeats 4000000 in
theorem k_X6_pair_R (l : Launch) (G : va_G) (cI cS cL : ClassId) (q : Nat → Nat) (refusal : Int32) (isShot : Bool) (states : Nat) (length : Nat) (at_ : Nat) (good : Bool) (runs : Bool) (did : Int32) (now : Nat → Int32) (k : Int32) (o : Int32) (w : Int32) (hrf : ((f_X6_refused (if (f_X6_isPair k o) = true then (if (f_X6_in w.toInt64 (0 : Int64) (2 : Int64)) = true then (0 : Int32) else (2 : Int32)) else (1 : Int32))).1) = true) : Ct l G (tyl cI cS cL) yX6_pair cX6_pair 4 (some (Jvm.ClassFile.FieldType.int)) 3 66 0 0 [.ref (q 0), .int k, .int o, .int w] [mdC q refusal isShot states length at_ good runs did, rwC (q 1) cI 129 now].flatten (f_X6_pair_R k o w) (fun u => some (.int u.1)) (fun u => [mdC q u.2 isShot states length at_ good runs did, rwC (q 1) cI 129 now].flatten) := by
  refine Ct.of (by decide +kernel) (Nat.le_of_ble_eq_true rfl) ?_
  intro p e s m args below meth c A ls hx hb hr hml hw hown hlocks hin hK hN hP hD hS hA hl
  have hown : s.vm.findClass RX6 = some m.cls := hown
  have X : Cx p s m args c cX6_pair 4 RX6 G (tyl cI cS cL) := ⟨hx, hb, hml, hown, hw, hK, hN⟩
  have hP : va_P G classes [mdC q refusal isShot states length at_ good runs did, rwC (q 1) cI 129 now].flatten s.heap := hP
  have hl : lv_has ls 4 [(0, .ref (q 0)), (1, .int k), (2, .int o), (3, .int w)] := hl
  generalize hQQ : MQ below _ args s 0 0 A = QQ
  refine lv_aload_n hx hb dX6_pair_0 rfl (lv_at hl 0 rfl) ?_
  refine lv_iload_n hx hb dX6_pair_1 rfl (lv_at hl 1 rfl) ?_
  refine lv_iload_n hx hb dX6_pair_2 rfl (lv_at hl 2 rfl) ?_
  refine ct_callS (As := [.int k, .int o]) (rest := [.ref (q 0)]) X hP hD hS hA (k_X6_isPair l G cI cS cL  k o) cq_X6_isPair aw_1112 ⟨Nat.le_of_ble_eq_true rfl, Nat.le_of_ble_eq_true rfl⟩ ([] : List Nat) (cs := []) rfl (by decide) (cs' := []) rfl rfl rfl hl.1 rfl (Nat.le_of_ble_eq_true rfl) dX6_pair_3 ⟨Nat.zero_le _, Nat.zero_le _⟩ rfl (bs' := [mdC q refusal isShot states length at_ good runs did, rwC (q 1) cI 129 now]) rfl (fun H locs hP hD hS => ?_)
  have hM_10 : ∀ (v_9 : Int32) (ls : Array Slot) (H : Heap) (locs : List Loc), v_9 = (if (f_X6_isPair k o) = true then (if (f_X6_in w.toInt64 (0 : Int64) (2 : Int64)) = true then (0 : Int32) else (2 : Int32)) else (1 : Int32)) → lv_has ls 4 [(0, .ref (q 0)), (1, .int k), (2, .int o), (3, .int w)] → va_P G classes [mdC q refusal isShot states length at_ good runs did, rwC (q 1) cI 129 now].flatten H → va_D A [mdC q refusal isShot states length at_ good runs did, rwC (q 1) cI 129 now].flatten → va_S A s.heap H locs → W p l e ({ frames := 3, cells := 0, slots := 0, locals := 66 } : Room) s m args below meth c H locs 0 0 QQ (F0 m 30 ls [.int v_9, .ref (q 0)]) := by
    intro v_9 ls H locs e_v_9 hl hP hD hS
    subst e_v_9
    refine ct_callV (As := [.int (if (f_X6_isPair k o) = true then (if (f_X6_in w.toInt64 (0 : Int64) (2 : Int64)) = true then (0 : Int32) else (2 : Int32)) else (1 : Int32))]) (rest := []) X hP hD hS hA (k_X6_refused l G cI cS cL q refusal isShot states length at_ good runs did (if (f_X6_isPair k o) = true then (if (f_X6_in w.toInt64 (0 : Int64) (2 : Int64)) = true then (0 : Int32) else (2 : Int32)) else (1 : Int32))) cp_X6_refused aw_929 ⟨Nat.le_of_ble_eq_true rfl, Nat.le_of_ble_eq_true rfl⟩ [0] (cs := [mdC q refusal isShot states length at_ good runs did]) rfl (by decide) (cs' := [mdC q ((f_X6_refused (if (f_X6_isPair k o) = true then (if (f_X6_in w.toInt64 (0 : Int64) (2 : Int64)) = true then (0 : Int32) else (2 : Int32)) else (1 : Int32))).2) isShot states length at_ good runs did]) rfl rfl 4 rfl rfl (q0 := 0) rfl rfl hl.1 rfl (Nat.le_of_ble_eq_true rfl) dX6_pair_30 ⟨Nat.zero_le _, Nat.zero_le _⟩ rfl (bs' := [mdC q ((f_X6_refused (if (f_X6_isPair k o) = true then (if (f_X6_in w.toInt64 (0 : Int64) (2 : Int64)) = true then (0 : Int32) else (2 : Int32)) else (1 : Int32))).2) isShot states length at_ good runs did, rwC (q 1) cI 129 now]) rfl (fun H locs hP hD hS => ?_)
    refine bv_ifeq hx hb ((f_X6_refused (if (f_X6_isPair k o) = true then (if (f_X6_in w.toInt64 (0 : Int64) (2 : Int64)) = true then (0 : Int32) else (2 : Int32)) else (1 : Int32))).1) 38 dX6_pair_33 (by decide) (fun c => absurd hrf c) (fun c_11 => ?_)
    refine lv_iconst (v := 0) hx hb dX6_pair_36 (by decide) ?_
    rw [← hQQ]; exact W.iret hx hb hr (ct_end (F := (f_X6_pair_R k o w)) (u := ((0 : Int32), (f_X6_refused (if (f_X6_isPair k o) = true then (if (f_X6_in w.toInt64 (0 : Int64) (2 : Int64)) = true then (0 : Int32) else (2 : Int32)) else (1 : Int32))).2)) (rf := (fun u => some (.int u.1))) (wf := (fun u => [mdC q u.2 isShot states length at_ good runs did, rwC (q 1) cI 129 now].flatten)) rfl rfl hP hD hS) hS.2.2 dX6_pair_37
  refine bv_ifne hx hb (f_X6_isPair k o) 13 dX6_pair_6 (by decide) (fun c_1 => ?_) (fun c_1 => ?_)
  · refine lv_iload_n hx hb dX6_pair_13 rfl (lv_at hl 3 rfl) ?_
    refine lv_i2l hx hb dX6_pair_14 rfl ?_
    refine lv_lconst (v := 0) hx hb dX6_pair_15 (by decide) ?_
    refine lv_ldc2 hx hb hown (hw _ aw_990) dX6_pair_16 ?_
    refine ct_callS (As := [.long w.toInt64, .long (0 : Int64), .long (2 : Int64)]) (rest := [.ref (q 0)]) X hP hD hS hA (k_X6_in l G cI cS cL  w.toInt64 (0 : Int64) (2 : Int64)) cq_X6_in aw_926 ⟨Nat.le_of_ble_eq_true rfl, Nat.le_of_ble_eq_true rfl⟩ ([] : List Nat) (cs := []) rfl (by decide) (cs' := []) rfl rfl rfl hl.1 rfl (Nat.le_of_ble_eq_true rfl) dX6_pair_19 ⟨Nat.zero_le _, Nat.zero_le _⟩ rfl (bs' := [mdC q refusal isShot states length at_ good runs did, rwC (q 1) cI 129 now]) rfl (fun H locs hP hD hS => ?_)
    have hM_6 : ∀ (v_5 : Int32) (ls : Array Slot) (H : Heap) (locs : List Loc), v_5 = (if (f_X6_in w.toInt64 (0 : Int64) (2 : Int64)) = true then (0 : Int32) else (2 : Int32)) → lv_has ls 4 [(0, .ref (q 0)), (1, .int k), (2, .int o), (3, .int w)] → va_P G classes [mdC q refusal isShot states length at_ good runs did, rwC (q 1) cI 129 now].flatten H → va_D A [mdC q refusal isShot states length at_ good runs did, rwC (q 1) cI 129 now].flatten → va_S A s.heap H locs → W p l e ({ frames := 3, cells := 0, slots := 0, locals := 66 } : Room) s m args below meth c H locs 0 0 QQ (F0 m 30 ls [.int v_5, .ref (q 0)]) := by
      intro v_5 ls H locs e_v_5 hl hP hD hS
      subst e_v_5
      exact hM_10 (if (f_X6_in w.toInt64 (0 : Int64) (2 : Int64)) = true then (0 : Int32) else (2 : Int32)) _ _ _ (if_pos c_1).symm (lv_sub hl [0, 1, 2, 3] rfl) hP hD hS
    refine bv_ifne hx hb (f_X6_in w.toInt64 (0 : Int64) (2 : Int64)) 29 dX6_pair_22 (by decide) (fun c_2 => ?_) (fun c_2 => ?_)
    · refine lv_iconst (v := 0) hx hb dX6_pair_29 (by decide) ?_
      exact hM_6 (0 : Int32) _ _ _ (if_pos c_2).symm (lv_sub hl [0, 1, 2, 3] rfl) hP hD hS
    · refine lv_iconst (v := 2) hx hb dX6_pair_25 (by decide) ?_
      refine lv_goto (tgt := 30) hx hb dX6_pair_26 (by decide) ?_
      exact hM_6 (2 : Int32) _ _ _ (if_neg c_2).symm (lv_sub hl [0, 1, 2, 3] rfl) hP hD hS
  · refine lv_iconst (v := 1) hx hb dX6_pair_9 (by decide) ?_
    refine lv_goto (tgt := 30) hx hb dX6_pair_10 (by decide) ?_
    exact hM_10 (1 : Int32) _ _ _ (if_neg c_1).symm (lv_sub hl [0, 1, 2, 3] rfl) hP hD hS
set_option maxRecDepth 100000 in
set_option maxHeartbeats 4000000 in
theorem k_X6_allStrikes (l : Launch) (G : va_G) (cI cS cL : ClassId) (q : Nat → Nat) (refusal : Int32) (isShot : Bool) (states : Nat) (length : Nat) (at_ : Nat) (good : Bool) (runs : Bool) (did : Int32) (now : Nat → Int32) : Ct l G (tyl cI cS cL) yX6_allStrikes cX6_allStrikes 3 (some (Jvm.ClassFile.FieldType.int)) 1 20 0 0 [.ref (q 0)] [mdC q refusal isShot states length at_ good runs did, rwC (q 1) cI 129 now].flatten (f_X6_allStrikes now) (fun u => some (.int u)) (fun _ => [mdC q refusal isShot states length at_ good runs did, rwC (q 1) cI 129 now].flatten) := by
  refine Ct.of (by decide +kernel) (Nat.le_of_ble_eq_true rfl) ?_
  intro p e s m args below meth c A ls hx hb hr hml hw hown hlocks hin hK hN hP hD hS hA hl
  have hown : s.vm.findClass RX6 = some m.cls := hown
  have X : Cx p s m args c cX6_allStrikes 3 RX6 G (tyl cI cS cL) := ⟨hx, hb, hml, hown, hw, hK, hN⟩
  have hP : va_P G classes [mdC q refusal isShot states length at_ good runs did, rwC (q 1) cI 129 now].flatten s.heap := hP
  have hl : lv_has ls 3 [(0, .ref (q 0))] := hl
  generalize hQQ : MQ below _ args s 0 0 A = QQ
  refine lv_iconst (v := 0) hx hb dX6_allStrikes_0 (by decide) ?_
  refine lv_istore_n (lv' := [(1, .int (0 : Int32)), (0, .ref (q 0))]) hx hb dX6_allStrikes_1 rfl hl (by decide) rfl (fun ls hl => ?_)
  refine lv_iconst (v := 0) hx hb dX6_allStrikes_2 (by decide) ?_
  refine lv_istore_n (lv' := [(2, .int (0 : Int32)), (1, .int (0 : Int32)), (0, .ref (q 0))]) hx hb dX6_allStrikes_3 rfl hl (by decide) rfl (fun ls hl => ?_)
  refine it_loop (f := (L_X6_allStrikes_4 now)) 8 (fun (i4 : Nat) (s4 : Int32) => ∀ (ls : Array Slot) (H : Heap) (locs : List Loc), lv_has ls 3 [(2, .int (nI i4)), (1, .int s4), (0, .ref (q 0))] → va_P G classes [mdC q refusal isShot states length at_ good runs did, rwC (q 1) cI 129 now].flatten H → va_D A [mdC q refusal isShot states length at_ good runs did, rwC (q 1) cI 129 now].flatten → va_S A s.heap H locs → W p l e ({ frames := 1, cells := 0, slots := 0, locals := 20 } : Room) s m args below meth c H locs 0 0 QQ (F0 m 4 ls [])) (fun i4 s4 hi4 ih => ?_) 8 0 (0 : Int32) (by omega) ?_ ls _ _ (lv_sub hl [0, 1, 2] rfl) hP hD hS
  · intro ls H locs hl hP hD hS
    refine lv_iload_n hx hb dX6_allStrikes_4 rfl (lv_at hl 0 rfl) ?_
    refine lv_bipush (v := 8) hx hb dX6_allStrikes_5 (by decide) ?_
    refine nv_ge hx hb i4 8 30 (by omega) (by omega) dX6_allStrikes_7 (by decide) (fun hc => absurd hc (by omega)) (fun _ => ?_)
    refine lv_iload_n hx hb dX6_allStrikes_10 rfl (lv_at hl 1 rfl) ?_
    refine lv_aload_n hx hb dX6_allStrikes_11 rfl (lv_at hl 2 rfl) ?_
    refine va_get (D := G) (ci := 4) (C := RX6) (T := TX6) (N := 15) hx hb hw in_X6 hown hK hP 0 rfl rfl 1 (by decide) (hw _ aw_872) (fun _ h9 => h9) rfl dX6_allStrikes_12 ?_
    refine lv_iload_n hx hb dX6_allStrikes_15 rfl (lv_at hl 0 rfl) ?_
    refine ct_callS (As := [.int (nI i4)]) (rest := [.ref (q 1), .int s4]) X hP hD hS hA (k_X6_spot l G cI cS cL  i4) cq_X6_spot aw_951 ⟨Nat.le_of_ble_eq_true rfl, Nat.le_of_ble_eq_true rfl⟩ ([] : List Nat) (cs := []) rfl (by decide) (cs' := []) rfl rfl rfl hl.1 rfl (Nat.le_of_ble_eq_true rfl) dX6_allStrikes_16 ⟨Nat.zero_le _, Nat.zero_le _⟩ rfl (bs' := [mdC q refusal isShot states length at_ good runs did, rwC (q 1) cI 129 now]) rfl (fun H locs hP hD hS => ?_)
    refine lv_iconst (v := 4) hx hb dX6_allStrikes_19 (by decide) ?_
    refine nv_iadd hx hb (6 + (7 * i4)) 4 dX6_allStrikes_20 ?_
    refine nv_iald hx hb hK hP 1 0 rfl rfl ((6 + (7 * i4)) + 4) (by omega) (by decide) dX6_allStrikes_21 ?_
    refine lv_iadd hx hb dX6_allStrikes_22 ?_
    refine lv_istore_n (lv' := [(1, .int (s4 + (now ((6 + (7 * i4)) + 4)))), (2, .int (nI i4)), (0, .ref (q 0))]) hx hb dX6_allStrikes_23 rfl hl (by decide) rfl (fun ls hl => ?_)
    refine nv_iinc (k := 1) (lv' := [(2, .int (nI (i4 + 1))), (1, .int (s4 + (now ((6 + (7 * i4)) + 4)))), (0, .ref (q 0))]) hx hb i4 dX6_allStrikes_24 hl rfl (by decide) rfl (fun ls hl => ?_)
    refine lv_goto (tgt := 4) hx hb dX6_allStrikes_27 (by decide) ?_
    exact ih _ _ _ (lv_sub hl [0, 1, 2] rfl) hP hD hS
  · intro ls H locs hl hP hD hS
    refine lv_iload_n hx hb dX6_allStrikes_4 rfl (lv_at hl 0 rfl) ?_
    refine lv_bipush (v := 8) hx hb dX6_allStrikes_5 (by decide) ?_
    refine nv_ge hx hb 8 8 30 (by omega) (by omega) dX6_allStrikes_7 (by decide) (fun _ => ?_) (fun hc => absurd hc (by omega))
    refine lv_iload_n hx hb dX6_allStrikes_30 rfl (lv_at hl 1 rfl) ?_
    rw [← hQQ]; exact W.iret hx hb hr (ct_end (F := (f_X6_allStrikes now)) (u := (it (L_X6_allStrikes_4 now) 0 8 (0 : Int32))) (rf := (fun u => some (.int u))) (wf := (fun _ => [mdC q refusal isShot states length at_ good runs did, rwC (q 1) cI 129 now].flatten)) rfl rfl hP hD hS) hS.2.2 dX6_allStrikes_31
set_option maxRecDepth 100000 in
set_option maxHeartbeats 4000000 in
theorem k_X6_going (l : Launch) (G : va_G) (cI cS cL : ClassId) (q : Nat → Nat) (refusal : Int32) (isShot : Bool) (states : Nat) (length : Nat) (at_ : Nat) (good : Bool) (runs : Bool) (did : Int32) (now : Nat → Int32) : Ct l G (tyl cI cS cL) yX6_going cX6_going 3 (some (Jvm.ClassFile.FieldType.int)) 2 41 0 0 [.ref (q 0)] [mdC q refusal isShot states length at_ good runs did, rwC (q 1) cI 129 now].flatten (f_X6_going now) (fun u => some (.int u)) (fun _ => [mdC q refusal isShot states length at_ good runs did, rwC (q 1) cI 129 now].flatten) := by
  refine Ct.of (by decide +kernel) (Nat.le_of_ble_eq_true rfl) ?_
  intro p e s m args below meth c A ls hx hb hr hml hw hown hlocks hin hK hN hP hD hS hA hl
  have hown : s.vm.findClass RX6 = some m.cls := hown
  have X : Cx p s m args c cX6_going 3 RX6 G (tyl cI cS cL) := ⟨hx, hb, hml, hown, hw, hK, hN⟩
  have hP : va_P G classes [mdC q refusal isShot states length at_ good runs did, rwC (q 1) cI 129 now].flatten s.heap := hP
  have hl : lv_has ls 3 [(0, .ref (q 0))] := hl
  generalize hQQ : MQ below _ args s 0 0 A = QQ
  refine lv_iconst (v := 0) hx hb dX6_going_0 (by decide) ?_
  refine lv_istore_n (lv' := [(1, .int (0 : Int32)), (0, .ref (q 0))]) hx hb dX6_going_1 rfl hl (by decide) rfl (fun ls hl => ?_)
  refine lv_iconst (v := 0) hx hb dX6_going_2 (by decide) ?_
  refine lv_istore_n (lv' := [(2, .int (0 : Int32)), (1, .int (0 : Int32)), (0, .ref (q 0))]) hx hb dX6_going_3 rfl hl (by decide) rfl (fun ls hl => ?_)
  refine it_loop (f := (L_X6_going_4 now)) 8 (fun (i4 : Nat) (s4 : Int32) => ∀ (ls : Array Slot) (H : Heap) (locs : List Loc), lv_has ls 3 [(2, .int (nI i4)), (1, .int s4), (0, .ref (q 0))] → va_P G classes [mdC q refusal isShot states length at_ good runs did, rwC (q 1) cI 129 now].flatten H → va_D A [mdC q refusal isShot states length at_ good runs did, rwC (q 1) cI 129 now].flatten → va_S A s.heap H locs → W p l e ({ frames := 2, cells := 0, slots := 0, locals := 41 } : Room) s m args below meth c H locs 0 0 QQ (F0 m 4 ls [])) (fun i4 s4 hi4 ih => ?_) 8 0 (0 : Int32) (by omega) ?_ ls _ _ (lv_sub hl [0, 1, 2] rfl) hP hD hS
  · intro ls H locs hl hP hD hS
    refine lv_iload_n hx hb dX6_going_4 rfl (lv_at hl 0 rfl) ?_
    refine lv_bipush (v := 8) hx hb dX6_going_5 (by decide) ?_
    refine nv_ge hx hb i4 8 35 (by omega) (by omega) dX6_going_7 (by decide) (fun hc => absurd hc (by omega)) (fun _ => ?_)
    refine lv_iload_n hx hb dX6_going_10 rfl (lv_at hl 1 rfl) ?_
    refine lv_aload_n hx hb dX6_going_11 rfl (lv_at hl 2 rfl) ?_
    refine va_get (D := G) (ci := 4) (C := RX6) (T := TX6) (N := 15) hx hb hw in_X6 hown hK hP 0 rfl rfl 1 (by decide) (hw _ aw_872) (fun _ h9 => h9) rfl dX6_going_12 ?_
    refine lv_iload_n hx hb dX6_going_15 rfl (lv_at hl 0 rfl) ?_
    refine ct_callS (As := [.ref (q 1), .int (nI i4)]) (rest := [.int s4]) X hP hD hS hA (k_X6_goes l G cI cS cL (q 1) now i4 (by omega)) cq_X6_goes aw_948 ⟨Nat.le_of_ble_eq_true rfl, Nat.le_of_ble_eq_true rfl⟩ [1] (cs := [rwC (q 1) cI 129 now]) rfl (by decide) (cs' := [rwC (q 1) cI 129 now]) rfl rfl rfl hl.1 rfl (Nat.le_of_ble_eq_true rfl) dX6_going_16 ⟨Nat.zero_le _, Nat.zero_le _⟩ rfl (bs' := [mdC q refusal isShot states length at_ good runs did, rwC (q 1) cI 129 now]) rfl (fun H locs hP hD hS => ?_)
    have hM_7 : ∀ (v_6 : Bool) (ls : Array Slot) (H : Heap) (locs : List Loc), v_6 = (if (f_X6_goes now i4) = true then true else false) → lv_has ls 3 [(2, .int (nI i4)), (0, .ref (q 0))] → va_P G classes [mdC q refusal isShot states length at_ good runs did, rwC (q 1) cI 129 now].flatten H → va_D A [mdC q refusal isShot states length at_ good runs did, rwC (q 1) cI 129 now].flatten → va_S A s.heap H locs → W p l e ({ frames := 2, cells := 0, slots := 0, locals := 41 } : Room) s m args below meth c H locs 0 0 QQ (F0 m 27 ls [.int (bI v_6), .int s4]) := by
      intro v_6 ls H locs e_v_6 hl hP hD hS
      subst e_v_6
      refine lv_iadd hx hb dX6_going_27 ?_
      refine lv_istore_n (lv' := [(1, .int (s4 + (bI (if (f_X6_goes now i4) = true then true else false)))), (2, .int (nI i4)), (0, .ref (q 0))]) hx hb dX6_going_28 rfl hl (by decide) rfl (fun ls hl => ?_)
      refine nv_iinc (k := 1) (lv' := [(2, .int (nI (i4 + 1))), (1, .int (s4 + (bI (if (f_X6_goes now i4) = true then true else false)))), (0, .ref (q 0))]) hx hb i4 dX6_going_29 hl rfl (by decide) rfl (fun ls hl => ?_)
      refine lv_goto (tgt := 4) hx hb dX6_going_32 (by decide) ?_
      exact ih _ _ _ (lv_sub hl [0, 1, 2] rfl) hP hD hS
    refine bv_ifeq hx hb (f_X6_goes now i4) 26 dX6_going_19 (by decide) (fun c_3 => ?_) (fun c_3 => ?_)
    · refine lv_iconst (v := 0) hx hb dX6_going_26 (by decide) ?_
      exact hM_7 false _ _ _ (if_neg c_3).symm (lv_sub hl [0, 2] rfl) hP hD hS
    · refine lv_iconst (v := 1) hx hb dX6_going_22 (by decide) ?_
      refine lv_goto (tgt := 27) hx hb dX6_going_23 (by decide) ?_
      exact hM_7 true _ _ _ (if_pos c_3).symm (lv_sub hl [0, 2] rfl) hP hD hS
  · intro ls H locs hl hP hD hS
    refine lv_iload_n hx hb dX6_going_4 rfl (lv_at hl 0 rfl) ?_
    refine lv_bipush (v := 8) hx hb dX6_going_5 (by decide) ?_
    refine nv_ge hx hb 8 8 35 (by omega) (by omega) dX6_going_7 (by decide) (fun _ => ?_) (fun hc => absurd hc (by omega))
    refine lv_iload_n hx hb dX6_going_35 rfl (lv_at hl 1 rfl) ?_
    rw [← hQQ]; exact W.iret hx hb hr (ct_end (F := (f_X6_going now)) (u := (it (L_X6_going_4 now) 0 8 (0 : Int32))) (rf := (fun u => some (.int u))) (wf := (fun _ => [mdC q refusal isShot states length at_ good runs did, rwC (q 1) cI 129 now].flatten)) rfl rfl hP hD hS) hS.2.2 dX6_going_36
set_option maxRecDepth 100000 in
set_option maxHeartbeats 4000000 in
theorem k_X6_lockedPairs (l : Launch) (G : va_G) (cI cS cL : ClassId) (q : Nat → Nat) (refusal : Int32) (isShot : Bool) (states : Nat) (length : Nat) (at_ : Nat) (good : Bool) (runs : Bool) (did : Int32) (now : Nat → Int32) : Ct l G (tyl cI cS cL) yX6_lockedPairs cX6_lockedPairs 4 (some (Jvm.ClassFile.FieldType.int)) 2 43 0 0 [.ref (q 0)] [mdC q refusal isShot states length at_ good runs did, rwC (q 1) cI 129 now].flatten (f_X6_lockedPairs now) (fun u => some (.int u)) (fun _ => [mdC q refusal isShot states length at_ good runs did, rwC (q 1) cI 129 now].flatten) := by
  refine Ct.of (by decide +kernel) (Nat.le_of_ble_eq_true rfl) ?_
  intro p e s m args below meth c A ls hx hb hr hml hw hown hlocks hin hK hN hP hD hS hA hl
  have hown : s.vm.findClass RX6 = some m.cls := hown
  have X : Cx p s m args c cX6_lockedPairs 4 RX6 G (tyl cI cS cL) := ⟨hx, hb, hml, hown, hw, hK, hN⟩
  have hP : va_P G classes [mdC q refusal isShot states length at_ good runs did, rwC (q 1) cI 129 now].flatten s.heap := hP
  have hl : lv_has ls 4 [(0, .ref (q 0))] := hl
  generalize hQQ : MQ below _ args s 0 0 A = QQ
  refine lv_iconst (v := 0) hx hb dX6_lockedPairs_0 (by decide) ?_
  refine lv_istore_n (lv' := [(1, .int (0 : Int32)), (0, .ref (q 0))]) hx hb dX6_lockedPairs_1 rfl hl (by decide) rfl (fun ls hl => ?_)
  refine lv_iconst (v := 0) hx hb dX6_lockedPairs_2 (by decide) ?_
  refine lv_istore_n (lv' := [(2, .int (0 : Int32)), (1, .int (0 : Int32)), (0, .ref (q 0))]) hx hb dX6_lockedPairs_3 rfl hl (by decide) rfl (fun ls hl => ?_)
  refine it_loop (f := (L_X6_lockedPairs_4 now)) 8 (fun (i4 : Nat) (s4 : Int32) => ∀ (ls : Array Slot) (H : Heap) (locs : List Loc), lv_has ls 4 [(2, .int (nI i4)), (1, .int s4), (0, .ref (q 0))] → va_P G classes [mdC q refusal isShot states length at_ good runs did, rwC (q 1) cI 129 now].flatten H → va_D A [mdC q refusal isShot states length at_ good runs did, rwC (q 1) cI 129 now].flatten → va_S A s.heap H locs → W p l e ({ frames := 2, cells := 0, slots := 0, locals := 43 } : Room) s m args below meth c H locs 0 0 QQ (F0 m 4 ls [])) (fun i4 s4 hi4 ih => ?_) 8 0 (0 : Int32) (by omega) ?_ ls _ _ (lv_sub hl [0, 1, 2] rfl) hP hD hS
  · intro ls H locs hl hP hD hS
    refine lv_iload_n hx hb dX6_lockedPairs_4 rfl (lv_at hl 0 rfl) ?_
    refine lv_bipush (v := 8) hx hb dX6_lockedPairs_5 (by decide) ?_
    refine nv_ge hx hb i4 8 52 (by omega) (by omega) dX6_lockedPairs_7 (by decide) (fun hc => absurd hc (by omega)) (fun _ => ?_)
    refine lv_iload_n hx hb dX6_lockedPairs_10 rfl (lv_at hl 0 rfl) ?_
    refine lv_iconst (v := 1) hx hb dX6_lockedPairs_11 (by decide) ?_
    refine nv_iadd hx hb i4 1 dX6_lockedPairs_12 ?_
    refine lv_istore_n (lv' := [(3, .int (nI (i4 + 1))), (2, .int (nI i4)), (1, .int s4), (0, .ref (q 0))]) hx hb dX6_lockedPairs_13 rfl hl (by decide) rfl (fun ls hl => ?_)
    refine it_loop (f := (L_X6_lockedPairs_14 now i4)) 8 (fun (i14 : Nat) (s14 : Int32) => ∀ (ls : Array Slot) (H : Heap) (locs : List Loc), lv_has ls 4 [(3, .int (nI i14)), (2, .int (nI i4)), (1, .int s14), (0, .ref (q 0))] → va_P G classes [mdC q refusal isShot states length at_ good runs did, rwC (q 1) cI 129 now].flatten H → va_D A [mdC q refusal isShot states length at_ good runs did, rwC (q 1) cI 129 now].flatten → va_S A s.heap H locs → W p l e ({ frames := 2, cells := 0, slots := 0, locals := 43 } : Room) s m args below meth c H locs 0 0 QQ (F0 m 14 ls [])) (fun i14 s14 hi14 ih => ?_) (8 - (i4 + 1)) (i4 + 1) s4 (by omega) ?_ ls _ _ (lv_sub hl [0, 1, 2, 3] rfl) hP hD hS
    · intro ls H locs hl hP hD hS
      refine lv_iload_n hx hb dX6_lockedPairs_14 rfl (lv_at hl 0 rfl) ?_
      refine lv_bipush (v := 8) hx hb dX6_lockedPairs_15 (by decide) ?_
      refine nv_ge hx hb i14 8 46 (by omega) (by omega) dX6_lockedPairs_17 (by decide) (fun hc => absurd hc (by omega)) (fun _ => ?_)
      refine lv_iload_n hx hb dX6_lockedPairs_20 rfl (lv_at hl 2 rfl) ?_
      refine lv_aload_n hx hb dX6_lockedPairs_21 rfl (lv_at hl 3 rfl) ?_
      refine va_get (D := G) (ci := 4) (C := RX6) (T := TX6) (N := 15) hx hb hw in_X6 hown hK hP 0 rfl rfl 1 (by decide) (hw _ aw_872) (fun _ h9 => h9) rfl dX6_lockedPairs_22 ?_
      refine lv_iload_n hx hb dX6_lockedPairs_25 rfl (lv_at hl 1 rfl) ?_
      refine lv_iload_n hx hb dX6_lockedPairs_26 rfl (lv_at hl 0 rfl) ?_
      refine ct_callS (As := [.ref (q 1), .int (nI i4), .int (nI i14)]) (rest := [.int s14]) X hP hD hS hA (k_X6_isLocked l G cI cS cL (q 1) now i4 i14 (by omega) (by omega)) cq_X6_isLocked aw_1097 ⟨Nat.le_of_ble_eq_true rfl, Nat.le_of_ble_eq_true rfl⟩ [1] (cs := [rwC (q 1) cI 129 now]) rfl (by decide) (cs' := [rwC (q 1) cI 129 now]) rfl rfl rfl hl.1 rfl (Nat.le_of_ble_eq_true rfl) dX6_lockedPairs_27 ⟨Nat.zero_le _, Nat.zero_le _⟩ rfl (bs' := [mdC q refusal isShot states length at_ good runs did, rwC (q 1) cI 129 now]) rfl (fun H locs hP hD hS => ?_)
      have hM_9 : ∀ (v_8 : Bool) (ls : Array Slot) (H : Heap) (locs : List Loc), v_8 = (if (f_X6_isLocked now i4 i14) = true then true else false) → lv_has ls 4 [(3, .int (nI i14)), (2, .int (nI i4)), (0, .ref (q 0))] → va_P G classes [mdC q refusal isShot states length at_ good runs did, rwC (q 1) cI 129 now].flatten H → va_D A [mdC q refusal isShot states length at_ good runs did, rwC (q 1) cI 129 now].flatten → va_S A s.heap H locs → W p l e ({ frames := 2, cells := 0, slots := 0, locals := 43 } : Room) s m args below meth c H locs 0 0 QQ (F0 m 38 ls [.int (bI v_8), .int s14]) := by
        intro v_8 ls H locs e_v_8 hl hP hD hS
        subst e_v_8
        refine lv_iadd hx hb dX6_lockedPairs_38 ?_
        refine lv_istore_n (lv' := [(1, .int (s14 + (bI (if (f_X6_isLocked now i4 i14) = true then true else false)))), (3, .int (nI i14)), (2, .int (nI i4)), (0, .ref (q 0))]) hx hb dX6_lockedPairs_39 rfl hl (by decide) rfl (fun ls hl => ?_)
        refine nv_iinc (k := 1) (lv' := [(3, .int (nI (i14 + 1))), (1, .int (s14 + (bI (if (f_X6_isLocked now i4 i14) = true then true else false)))), (2, .int (nI i4)), (0, .ref (q 0))]) hx hb i14 dX6_lockedPairs_40 hl rfl (by decide) rfl (fun ls hl => ?_)
        refine lv_goto (tgt := 14) hx hb dX6_lockedPairs_43 (by decide) ?_
        exact ih _ _ _ (lv_sub hl [0, 2, 1, 3] rfl) hP hD hS
      refine bv_ifeq hx hb (f_X6_isLocked now i4 i14) 37 dX6_lockedPairs_30 (by decide) (fun c_5 => ?_) (fun c_5 => ?_)
      · refine lv_iconst (v := 0) hx hb dX6_lockedPairs_37 (by decide) ?_
        exact hM_9 false _ _ _ (if_neg c_5).symm (lv_sub hl [0, 1, 3] rfl) hP hD hS
      · refine lv_iconst (v := 1) hx hb dX6_lockedPairs_33 (by decide) ?_
        refine lv_goto (tgt := 38) hx hb dX6_lockedPairs_34 (by decide) ?_
        exact hM_9 true _ _ _ (if_pos c_5).symm (lv_sub hl [0, 1, 3] rfl) hP hD hS
    · intro ls H locs hl hP hD hS
      refine lv_iload_n hx hb dX6_lockedPairs_14 rfl (lv_at hl 0 rfl) ?_
      refine lv_bipush (v := 8) hx hb dX6_lockedPairs_15 (by decide) ?_
      refine nv_ge hx hb 8 8 46 (by omega) (by omega) dX6_lockedPairs_17 (by decide) (fun _ => ?_) (fun hc => absurd hc (by omega))
      refine nv_iinc (k := 1) (lv' := [(2, .int (nI (i4 + 1))), (3, .int (nI 8)), (1, .int (it (L_X6_lockedPairs_14 now i4) (i4 + 1) (8 - (i4 + 1)) s4)), (0, .ref (q 0))]) hx hb i4 dX6_lockedPairs_46 hl rfl (by decide) rfl (fun ls hl => ?_)
      refine lv_goto (tgt := 4) hx hb dX6_lockedPairs_49 (by decide) ?_
      exact ih _ _ _ (lv_sub hl [0, 2, 3] rfl) hP hD hS
  · intro ls H locs hl hP hD hS
    refine lv_iload_n hx hb dX6_lockedPairs_4 rfl (lv_at hl 0 rfl) ?_
    refine lv_bipush (v := 8) hx hb dX6_lockedPairs_5 (by decide) ?_
    refine nv_ge hx hb 8 8 52 (by omega) (by omega) dX6_lockedPairs_7 (by decide) (fun _ => ?_) (fun hc => absurd hc (by omega))
    refine lv_iload_n hx hb dX6_lockedPairs_52 rfl (lv_at hl 1 rfl) ?_
    rw [← hQQ]; exact W.iret hx hb hr (ct_end (F := (f_X6_lockedPairs now)) (u := (it (L_X6_lockedPairs_4 now) 0 8 (0 : Int32))) (rf := (fun u => some (.int u))) (wf := (fun _ => [mdC q refusal isShot states length at_ good runs did, rwC (q 1) cI 129 now].flatten)) rfl rfl hP hD hS) hS.2.2 dX6_lockedPairs_53
set_option maxRecDepth 100000 in
set_option maxHeartbeats 4000000 in
theorem k_X6_tellBeam (l : Launch) (G : va_G) (cI cS cL : ClassId) (q : Nat → Nat) (refusal : Int32) (isShot : Bool) (states : Nat) (length : Nat) (at_ : Nat) (good : Bool) (runs : Bool) (did : Int32) (now : Nat → Int32) (b : Nat) (w : Int32) (hb3 : b < 3) (hI : InvB now) : Ct l G (tyl cI cS cL) yX6_tellBeam cX6_tellBeam 12 (some (Jvm.ClassFile.FieldType.int)) 3 66 0 0 [.ref (q 0), .int (nI b), .int w] [mdC q refusal isShot states length at_ good runs did, rwC (q 1) cI 129 now].flatten (f_X6_tellBeam now b w) (fun u => some (.int u)) (fun _ => [mdC q refusal isShot states length at_ good runs did, rwC (q 1) cI 129 now].flatten) := by
  refine Ct.of (by decide +kernel) (Nat.le_of_ble_eq_true rfl) ?_
  intro p e s m args below meth c A ls hx hb hr hml hw hown hlocks hin hK hN hP hD hS hA hl
  have hown : s.vm.findClass RX6 = some m.cls := hown
  have X : Cx p s m args c cX6_tellBeam 12 RX6 G (tyl cI cS cL) := ⟨hx, hb, hml, hown, hw, hK, hN⟩
  have hP : va_P G classes [mdC q refusal isShot states length at_ good runs did, rwC (q 1) cI 129 now].flatten s.heap := hP
  have hl : lv_has ls 12 [(0, .ref (q 0)), (1, .int (nI b)), (2, .int w)] := hl
  generalize hQQ : MQ below _ args s 0 0 A = QQ
  refine lv_iconst (v := 0) hx hb dX6_tellBeam_0 (by decide) ?_
  refine lv_istore_n (lv' := [(3, .int (0 : Int32)), (0, .ref (q 0)), (1, .int (nI b)), (2, .int w)]) hx hb dX6_tellBeam_1 rfl hl (by decide) rfl (fun ls hl => ?_)
  refine lv_iconst (v := 0) hx hb dX6_tellBeam_2 (by decide) ?_
  refine lv_istore (lv' := [(4, .int (0 : Int32)), (3, .int (0 : Int32)), (0, .ref (q 0)), (1, .int (nI b)), (2, .int w)]) hx hb dX6_tellBeam_3 hl (by decide) rfl (fun ls hl => ?_)
  refine lv_iconst (v := 0) hx hb dX6_tellBeam_5 (by decide) ?_
  refine lv_istore (lv' := [(5, .int (0 : Int32)), (4, .int (0 : Int32)), (3, .int (0 : Int32)), (0, .ref (q 0)), (1, .int (nI b)), (2, .int w)]) hx hb dX6_tellBeam_6 hl (by decide) rfl (fun ls hl => ?_)
  refine lv_iconst (v := 0) hx hb dX6_tellBeam_8 (by decide) ?_
  refine lv_istore (lv' := [(6, .int (0 : Int32)), (5, .int (0 : Int32)), (4, .int (0 : Int32)), (3, .int (0 : Int32)), (0, .ref (q 0)), (1, .int (nI b)), (2, .int w)]) hx hb dX6_tellBeam_9 hl (by decide) rfl (fun ls hl => ?_)
  refine lv_iconst (v := 0) hx hb dX6_tellBeam_11 (by decide) ?_
  refine lv_istore (lv' := [(7, .int (0 : Int32)), (6, .int (0 : Int32)), (5, .int (0 : Int32)), (4, .int (0 : Int32)), (3, .int (0 : Int32)), (0, .ref (q 0)), (1, .int (nI b)), (2, .int w)]) hx hb dX6_tellBeam_12 hl (by decide) rfl (fun ls hl => ?_)
  refine it_loop (f := (L_X6_tellBeam_14 now b)) 8 (fun (i14 : Nat) (s14 : Int32 × Int32 × Int32 × Int32) => ∀ (ls : Array Slot) (H : Heap) (locs : List Loc), lv_has ls 12 [(7, .int (nI i14)), (6, .int s14.1), (5, .int s14.2.1), (4, .int s14.2.2.1), (3, .int s14.2.2.2), (0, .ref (q 0)), (1, .int (nI b)), (2, .int w)] → va_P G classes [mdC q refusal isShot states length at_ good runs did, rwC (q 1) cI 129 now].flatten H → va_D A [mdC q refusal isShot states length at_ good runs did, rwC (q 1) cI 129 now].flatten → va_S A s.heap H locs → W p l e ({ frames := 3, cells := 0, slots := 0, locals := 66 } : Room) s m args below meth c H locs 0 0 QQ (F0 m 14 ls [])) (fun i14 s14 hi14 ih => ?_) 8 0 ((0 : Int32), (0 : Int32), (0 : Int32), (0 : Int32)) (by omega) ?_ ls _ _ (lv_sub hl [0, 1, 2, 3, 4, 5, 6, 7] rfl) hP hD hS
  · intro ls H locs hl hP hD hS
    refine lv_iload hx hb dX6_tellBeam_14 (lv_at hl 0 rfl) ?_
    refine lv_bipush (v := 8) hx hb dX6_tellBeam_16 (by decide) ?_
    refine nv_ge hx hb i14 8 225 (by omega) (by omega) dX6_tellBeam_18 (by decide) (fun hc => absurd hc (by omega)) (fun _ => ?_)
    refine lv_aload_n hx hb dX6_tellBeam_21 rfl (lv_at hl 5 rfl) ?_
    refine va_get (D := G) (ci := 4) (C := RX6) (T := TX6) (N := 15) hx hb hw in_X6 hown hK hP 0 rfl rfl 1 (by decide) (hw _ aw_872) (fun _ h9 => h9) rfl dX6_tellBeam_22 ?_
    refine lv_iload hx hb dX6_tellBeam_25 (lv_at hl 0 rfl) ?_
    refine ct_callS (As := [.ref (q 1), .int (nI i14)]) (rest := []) X hP hD hS hA (k_X6_beamOf l G cI cS cL (q 1) now i14 (by omega)) cq_X6_beamOf aw_954 ⟨Nat.le_of_ble_eq_true rfl, Nat.le_of_ble_eq_true rfl⟩ [1] (cs := [rwC (q 1) cI 129 now]) rfl (by decide) (cs' := [rwC (q 1) cI 129 now]) rfl rfl rfl hl.1 rfl (Nat.le_of_ble_eq_true rfl) dX6_tellBeam_27 ⟨Nat.zero_le _, Nat.zero_le _⟩ rfl (bs' := [mdC q refusal isShot states length at_ good runs did, rwC (q 1) cI 129 now]) rfl (fun H locs hP hD hS => ?_)
    refine lv_iload_n hx hb dX6_tellBeam_30 rfl (lv_at hl 6 rfl) ?_
    have hM_7 : ∀ (v_6 : Bool) (ls : Array Slot) (H : Heap) (locs : List Loc), v_6 = (if (f_X6_beamOf now i14) = (nI b) then true else false) → lv_has ls 12 [(7, .int (nI i14)), (6, .int s14.1), (5, .int s14.2.1), (4, .int s14.2.2.1), (3, .int s14.2.2.2), (0, .ref (q 0)), (1, .int (nI b)), (2, .int w)] → va_P G classes [mdC q refusal isShot states length at_ good runs did, rwC (q 1) cI 129 now].flatten H → va_D A [mdC q refusal isShot states length at_ good runs did, rwC (q 1) cI 129 now].flatten → va_S A s.heap H locs → W p l e ({ frames := 3, cells := 0, slots := 0, locals := 66 } : Room) s m args below meth c H locs 0 0 QQ (F0 m 39 ls [.int (bI v_6)]) := by
      intro v_6 ls H locs e_v_6 hl hP hD hS
      subst e_v_6
      refine lv_istore (lv' := [(8, .int (bI (if (f_X6_beamOf now i14) = (nI b) then true else false))), (7, .int (nI i14)), (6, .int s14.1), (5, .int s14.2.1), (4, .int s14.2.2.1), (3, .int s14.2.2.2), (0, .ref (q 0)), (1, .int (nI b)), (2, .int w)]) hx hb dX6_tellBeam_39 hl (by decide) rfl (fun ls hl => ?_)
      refine lv_iload_n hx hb dX6_tellBeam_41 rfl (lv_at hl 5 rfl) ?_
      refine lv_iload hx hb dX6_tellBeam_42 (lv_at hl 0 rfl) ?_
      have hM_12 : ∀ (v_11 : Int32) (ls : Array Slot) (H : Heap) (locs : List Loc), v_11 = (if (if (f_X6_beamOf now i14) = (nI b) then true else false) = true then ((1 : Int32) <<< ((nI i14) &&& 31)) else (0 : Int32)) → lv_has ls 12 [(8, .int (bI (if (f_X6_beamOf now i14) = (nI b) then true else false))), (7, .int (nI i14)), (6, .int s14.1), (5, .int s14.2.1), (4, .int s14.2.2.1), (0, .ref (q 0)), (1, .int (nI b)), (2, .int w)] → va_P G classes [mdC q refusal isShot states length at_ good runs did, rwC (q 1) cI 129 now].flatten H → va_D A [mdC q refusal isShot states length at_ good runs did, rwC (q 1) cI 129 now].flatten → va_S A s.heap H locs → W p l e ({ frames := 3, cells := 0, slots := 0, locals := 66 } : Room) s m args below meth c H locs 0 0 QQ (F0 m 55 ls [.int v_11, .int s14.2.2.2]) := by
        intro v_11 ls H locs e_v_11 hl hP hD hS
        subst e_v_11
        refine lv_ior hx hb dX6_tellBeam_55 ?_
        refine lv_istore_n (lv' := [(3, .int (s14.2.2.2 ||| (if (if (f_X6_beamOf now i14) = (nI b) then true else false) = true then ((1 : Int32) <<< ((nI i14) &&& 31)) else (0 : Int32)))), (8, .int (bI (if (f_X6_beamOf now i14) = (nI b) then true else false))), (7, .int (nI i14)), (6, .int s14.1), (5, .int s14.2.1), (4, .int s14.2.2.1), (0, .ref (q 0)), (1, .int (nI b)), (2, .int w)]) hx hb dX6_tellBeam_56 rfl hl (by decide) rfl (fun ls hl => ?_)
        refine lv_iload hx hb dX6_tellBeam_57 (lv_at hl 5 rfl) ?_
        refine lv_iload hx hb dX6_tellBeam_59 (lv_at hl 1 rfl) ?_
        have hM_22 : ∀ (v_21 : Int32) (ls : Array Slot) (H : Heap) (locs : List Loc), v_21 = (if (if (f_X6_beamOf now i14) = (nI b) then true else false) = true then (if (f_X6_goes now i14) = true then ((1 : Int32) <<< ((nI i14) &&& 31)) else (0 : Int32)) else (0 : Int32)) → lv_has ls 12 [(3, .int (s14.2.2.2 ||| (if (if (f_X6_beamOf now i14) = (nI b) then true else false) = true then ((1 : Int32) <<< ((nI i14) &&& 31)) else (0 : Int32)))), (8, .int (bI (if (f_X6_beamOf now i14) = (nI b) then true else false))), (7, .int (nI i14)), (6, .int s14.1), (5, .int s14.2.1), (0, .ref (q 0)), (1, .int (nI b)), (2, .int w)] → va_P G classes [mdC q refusal isShot states length at_ good runs did, rwC (q 1) cI 129 now].flatten H → va_D A [mdC q refusal isShot states length at_ good runs did, rwC (q 1) cI 129 now].flatten → va_S A s.heap H locs → W p l e ({ frames := 3, cells := 0, slots := 0, locals := 66 } : Room) s m args below meth c H locs 0 0 QQ (F0 m 84 ls [.int v_21, .int s14.2.2.1]) := by
          intro v_21 ls H locs e_v_21 hl hP hD hS
          subst e_v_21
          refine lv_ior hx hb dX6_tellBeam_84 ?_
          refine lv_istore (lv' := [(4, .int (s14.2.2.1 ||| (if (if (f_X6_beamOf now i14) = (nI b) then true else false) = true then (if (f_X6_goes now i14) = true then ((1 : Int32) <<< ((nI i14) &&& 31)) else (0 : Int32)) else (0 : Int32)))), (3, .int (s14.2.2.2 ||| (if (if (f_X6_beamOf now i14) = (nI b) then true else false) = true then ((1 : Int32) <<< ((nI i14) &&& 31)) else (0 : Int32)))), (8, .int (bI (if (f_X6_beamOf now i14) = (nI b) then true else false))), (7, .int (nI i14)), (6, .int s14.1), (5, .int s14.2.1), (0, .ref (q 0)), (1, .int (nI b)), (2, .int w)]) hx hb dX6_tellBeam_85 hl (by decide) rfl (fun ls hl => ?_)
          refine lv_iload hx hb dX6_tellBeam_87 (lv_at hl 5 rfl) ?_
          refine lv_iload hx hb dX6_tellBeam_89 (lv_at hl 2 rfl) ?_
          have hM_27 : ∀ (v_26 : Int32) (ls : Array Slot) (H : Heap) (locs : List Loc), v_26 = (if (if (f_X6_beamOf now i14) = (nI b) then true else false) = true then (f_X6_pull now i14) else (0 : Int32)) → lv_has ls 12 [(4, .int (s14.2.2.1 ||| (if (if (f_X6_beamOf now i14) = (nI b) then true else false) = true then (if (f_X6_goes now i14) = true then ((1 : Int32) <<< ((nI i14) &&& 31)) else (0 : Int32)) else (0 : Int32)))), (3, .int (s14.2.2.2 ||| (if (if (f_X6_beamOf now i14) = (nI b) then true else false) = true then ((1 : Int32) <<< ((nI i14) &&& 31)) else (0 : Int32)))), (8, .int (bI (if (f_X6_beamOf now i14) = (nI b) then true else false))), (7, .int (nI i14)), (6, .int s14.1), (0, .ref (q 0)), (1, .int (nI b)), (2, .int w)] → va_P G classes [mdC q refusal isShot states length at_ good runs did, rwC (q 1) cI 129 now].flatten H → va_D A [mdC q refusal isShot states length at_ good runs did, rwC (q 1) cI 129 now].flatten → va_S A s.heap H locs → W p l e ({ frames := 3, cells := 0, slots := 0, locals := 66 } : Room) s m args below meth c H locs 0 0 QQ (F0 m 107 ls [.int v_26, .int s14.2.1]) := by
            intro v_26 ls H locs e_v_26 hl hP hD hS
            subst e_v_26
            refine lv_iadd hx hb dX6_tellBeam_107 ?_
            refine lv_istore (lv' := [(5, .int (s14.2.1 + (if (if (f_X6_beamOf now i14) = (nI b) then true else false) = true then (f_X6_pull now i14) else (0 : Int32)))), (4, .int (s14.2.2.1 ||| (if (if (f_X6_beamOf now i14) = (nI b) then true else false) = true then (if (f_X6_goes now i14) = true then ((1 : Int32) <<< ((nI i14) &&& 31)) else (0 : Int32)) else (0 : Int32)))), (3, .int (s14.2.2.2 ||| (if (if (f_X6_beamOf now i14) = (nI b) then true else false) = true then ((1 : Int32) <<< ((nI i14) &&& 31)) else (0 : Int32)))), (8, .int (bI (if (f_X6_beamOf now i14) = (nI b) then true else false))), (7, .int (nI i14)), (6, .int s14.1), (0, .ref (q 0)), (1, .int (nI b)), (2, .int w)]) hx hb dX6_tellBeam_108 hl (by decide) rfl (fun ls hl => ?_)
            refine lv_iload hx hb dX6_tellBeam_110 (lv_at hl 4 rfl) ?_
            refine lv_iconst (v := 1) hx hb dX6_tellBeam_112 (by decide) ?_
            refine nv_iadd hx hb i14 1 dX6_tellBeam_113 ?_
            refine lv_istore (lv' := [(9, .int (nI (i14 + 1))), (5, .int (s14.2.1 + (if (if (f_X6_beamOf now i14) = (nI b) then true else false) = true then (f_X6_pull now i14) else (0 : Int32)))), (4, .int (s14.2.2.1 ||| (if (if (f_X6_beamOf now i14) = (nI b) then true else false) = true then (if (f_X6_goes now i14) = true then ((1 : Int32) <<< ((nI i14) &&& 31)) else (0 : Int32)) else (0 : Int32)))), (3, .int (s14.2.2.2 ||| (if (if (f_X6_beamOf now i14) = (nI b) then true else false) = true then ((1 : Int32) <<< ((nI i14) &&& 31)) else (0 : Int32)))), (8, .int (bI (if (f_X6_beamOf now i14) = (nI b) then true else false))), (7, .int (nI i14)), (6, .int s14.1), (0, .ref (q 0)), (1, .int (nI b)), (2, .int w)]) hx hb dX6_tellBeam_114 hl (by decide) rfl (fun ls hl => ?_)
            refine it_loop (f := (L_X6_tellBeam_116 now b i14)) 8 (fun (i116 : Nat) (s116 : Int32) => ∀ (ls : Array Slot) (H : Heap) (locs : List Loc), lv_has ls 12 [(9, .int (nI i116)), (5, .int (s14.2.1 + (if (if (f_X6_beamOf now i14) = (nI b) then true else false) = true then (f_X6_pull now i14) else (0 : Int32)))), (4, .int (s14.2.2.1 ||| (if (if (f_X6_beamOf now i14) = (nI b) then true else false) = true then (if (f_X6_goes now i14) = true then ((1 : Int32) <<< ((nI i14) &&& 31)) else (0 : Int32)) else (0 : Int32)))), (3, .int (s14.2.2.2 ||| (if (if (f_X6_beamOf now i14) = (nI b) then true else false) = true then ((1 : Int32) <<< ((nI i14) &&& 31)) else (0 : Int32)))), (8, .int (bI (if (f_X6_beamOf now i14) = (nI b) then true else false))), (7, .int (nI i14)), (6, .int s116), (0, .ref (q 0)), (1, .int (nI b)), (2, .int w)] → va_P G classes [mdC q refusal isShot states length at_ good runs did, rwC (q 1) cI 129 now].flatten H → va_D A [mdC q refusal isShot states length at_ good runs did, rwC (q 1) cI 129 now].flatten → va_S A s.heap H locs → W p l e ({ frames := 3, cells := 0, slots := 0, locals := 66 } : Room) s m args below meth c H locs 0 0 QQ (F0 m 116 ls [])) (fun i116 s116 hi116 ih => ?_) (8 - (i14 + 1)) (i14 + 1) s14.1 (by omega) ?_ ls _ _ (lv_sub hl [0, 1, 2, 3, 4, 5, 6, 7, 8, 9] rfl) hP hD hS
            · intro ls H locs hl hP hD hS
              refine lv_iload hx hb dX6_tellBeam_116 (lv_at hl 0 rfl) ?_
              refine lv_bipush (v := 8) hx hb dX6_tellBeam_118 (by decide) ?_
              refine nv_ge hx hb i116 8 219 (by omega) (by omega) dX6_tellBeam_120 (by decide) (fun hc => absurd hc (by omega)) (fun _ => ?_)
              refine lv_iload hx hb dX6_tellBeam_123 (lv_at hl 4 rfl) ?_
              have hM_49 : ∀ (v_48 : Bool) (ls : Array Slot) (H : Heap) (locs : List Loc), v_48 = (if (if (f_X6_beamOf now i14) = (nI b) then true else false) = true then (if (f_X6_beamOf now i116) = (nI b) then (if (f_X6_goes now i14) = true then (if (f_X6_goes now i116) = true then true else false) else false) else false) else false) → lv_has ls 12 [(9, .int (nI i116)), (5, .int (s14.2.1 + (if (if (f_X6_beamOf now i14) = (nI b) then true else false) = true then (f_X6_pull now i14) else (0 : Int32)))), (4, .int (s14.2.2.1 ||| (if (if (f_X6_beamOf now i14) = (nI b) then true else false) = true then (if (f_X6_goes now i14) = true then ((1 : Int32) <<< ((nI i14) &&& 31)) else (0 : Int32)) else (0 : Int32)))), (3, .int (s14.2.2.2 ||| (if (if (f_X6_beamOf now i14) = (nI b) then true else false) = true then ((1 : Int32) <<< ((nI i14) &&& 31)) else (0 : Int32)))), (8, .int (bI (if (f_X6_beamOf now i14) = (nI b) then true else false))), (7, .int (nI i14)), (6, .int s116), (0, .ref (q 0)), (1, .int (nI b)), (2, .int w)] → va_P G classes [mdC q refusal isShot states length at_ good runs did, rwC (q 1) cI 129 now].flatten H → va_D A [mdC q refusal isShot states length at_ good runs did, rwC (q 1) cI 129 now].flatten → va_S A s.heap H locs → W p l e ({ frames := 3, cells := 0, slots := 0, locals := 66 } : Room) s m args below meth c H locs 0 0 QQ (F0 m 170 ls [.int (bI v_48)]) := by
                intro v_48 ls H locs e_v_48 hl hP hD hS
                subst e_v_48
                refine lv_istore (lv' := [(10, .int (bI (if (if (f_X6_beamOf now i14) = (nI b) then true else false) = true then (if (f_X6_beamOf now i116) = (nI b) then (if (f_X6_goes now i14) = true then (if (f_X6_goes now i116) = true then true else false) else false) else false) else false))), (9, .int (nI i116)), (5, .int (s14.2.1 + (if (if (f_X6_beamOf now i14) = (nI b) then true else false) = true then (f_X6_pull now i14) else (0 : Int32)))), (4, .int (s14.2.2.1 ||| (if (if (f_X6_beamOf now i14) = (nI b) then true else false) = true then (if (f_X6_goes now i14) = true then ((1 : Int32) <<< ((nI i14) &&& 31)) else (0 : Int32)) else (0 : Int32)))), (3, .int (s14.2.2.2 ||| (if (if (f_X6_beamOf now i14) = (nI b) then true else false) = true then ((1 : Int32) <<< ((nI i14) &&& 31)) else (0 : Int32)))), (8, .int (bI (if (f_X6_beamOf now i14) = (nI b) then true else false))), (7, .int (nI i14)), (6, .int s116), (0, .ref (q 0)), (1, .int (nI b)), (2, .int w)]) hx hb dX6_tellBeam_170 hl (by decide) rfl (fun ls hl => ?_)
                refine lv_iload hx hb dX6_tellBeam_172 (lv_at hl 0 rfl) ?_
                have hM_54 : ∀ (v_53 : Int32) (ls : Array Slot) (H : Heap) (locs : List Loc), v_53 = (if (if (if (f_X6_beamOf now i14) = (nI b) then true else false) = true then (if (f_X6_beamOf now i116) = (nI b) then (if (f_X6_goes now i14) = true then (if (f_X6_goes now i116) = true then true else false) else false) else false) else false) = true then (f_X6_size (f_X6_gap now i14 i116)) else (0 : Int32)) → lv_has ls 12 [(9, .int (nI i116)), (5, .int (s14.2.1 + (if (if (f_X6_beamOf now i14) = (nI b) then true else false) = true then (f_X6_pull now i14) else (0 : Int32)))), (4, .int (s14.2.2.1 ||| (if (if (f_X6_beamOf now i14) = (nI b) then true else false) = true then (if (f_X6_goes now i14) = true then ((1 : Int32) <<< ((nI i14) &&& 31)) else (0 : Int32)) else (0 : Int32)))), (3, .int (s14.2.2.2 ||| (if (if (f_X6_beamOf now i14) = (nI b) then true else false) = true then ((1 : Int32) <<< ((nI i14) &&& 31)) else (0 : Int32)))), (8, .int (bI (if (f_X6_beamOf now i14) = (nI b) then true else false))), (7, .int (nI i14)), (6, .int s116), (0, .ref (q 0)), (1, .int (nI b)), (2, .int w)] → va_P G classes [mdC q refusal isShot states length at_ good runs did, rwC (q 1) cI 129 now].flatten H → va_D A [mdC q refusal isShot states length at_ good runs did, rwC (q 1) cI 129 now].flatten → va_S A s.heap H locs → W p l e ({ frames := 3, cells := 0, slots := 0, locals := 66 } : Room) s m args below meth c H locs 0 0 QQ (F0 m 195 ls [.int v_53]) := by
                  intro v_53 ls H locs e_v_53 hl hP hD hS
                  subst e_v_53
                  refine lv_istore (lv' := [(11, .int (if (if (if (f_X6_beamOf now i14) = (nI b) then true else false) = true then (if (f_X6_beamOf now i116) = (nI b) then (if (f_X6_goes now i14) = true then (if (f_X6_goes now i116) = true then true else false) else false) else false) else false) = true then (f_X6_size (f_X6_gap now i14 i116)) else (0 : Int32))), (9, .int (nI i116)), (5, .int (s14.2.1 + (if (if (f_X6_beamOf now i14) = (nI b) then true else false) = true then (f_X6_pull now i14) else (0 : Int32)))), (4, .int (s14.2.2.1 ||| (if (if (f_X6_beamOf now i14) = (nI b) then true else false) = true then (if (f_X6_goes now i14) = true then ((1 : Int32) <<< ((nI i14) &&& 31)) else (0 : Int32)) else (0 : Int32)))), (3, .int (s14.2.2.2 ||| (if (if (f_X6_beamOf now i14) = (nI b) then true else false) = true then ((1 : Int32) <<< ((nI i14) &&& 31)) else (0 : Int32)))), (8, .int (bI (if (f_X6_beamOf now i14) = (nI b) then true else false))), (7, .int (nI i14)), (6, .int s116), (0, .ref (q 0)), (1, .int (nI b)), (2, .int w)]) hx hb dX6_tellBeam_195 hl (by decide) rfl (fun ls hl => ?_)
                  refine lv_iload hx hb dX6_tellBeam_197 (lv_at hl 0 rfl) ?_
                  refine lv_iload hx hb dX6_tellBeam_199 (lv_at hl 7 rfl) ?_
                  have hM_59 : ∀ (v_58 : Int32) (ls : Array Slot) (H : Heap) (locs : List Loc), v_58 = (if (if (if (if (f_X6_beamOf now i14) = (nI b) then true else false) = true then (if (f_X6_beamOf now i116) = (nI b) then (if (f_X6_goes now i14) = true then (if (f_X6_goes now i116) = true then true else false) else false) else false) else false) = true then (f_X6_size (f_X6_gap now i14 i116)) else (0 : Int32)) ≤ s116 then s116 else (if (if (if (f_X6_beamOf now i14) = (nI b) then true else false) = true then (if (f_X6_beamOf now i116) = (nI b) then (if (f_X6_goes now i14) = true then (if (f_X6_goes now i116) = true then true else false) else false) else false) else false) = true then (f_X6_size (f_X6_gap now i14 i116)) else (0 : Int32))) → lv_has ls 12 [(9, .int (nI i116)), (5, .int (s14.2.1 + (if (if (f_X6_beamOf now i14) = (nI b) then true else false) = true then (f_X6_pull now i14) else (0 : Int32)))), (4, .int (s14.2.2.1 ||| (if (if (f_X6_beamOf now i14) = (nI b) then true else false) = true then (if (f_X6_goes now i14) = true then ((1 : Int32) <<< ((nI i14) &&& 31)) else (0 : Int32)) else (0 : Int32)))), (3, .int (s14.2.2.2 ||| (if (if (f_X6_beamOf now i14) = (nI b) then true else false) = true then ((1 : Int32) <<< ((nI i14) &&& 31)) else (0 : Int32)))), (8, .int (bI (if (f_X6_beamOf now i14) = (nI b) then true else false))), (7, .int (nI i14)), (0, .ref (q 0)), (1, .int (nI b)), (2, .int w)] → va_P G classes [mdC q refusal isShot states length at_ good runs did, rwC (q 1) cI 129 now].flatten H → va_D A [mdC q refusal isShot states length at_ good runs did, rwC (q 1) cI 129 now].flatten → va_S A s.heap H locs → W p l e ({ frames := 3, cells := 0, slots := 0, locals := 66 } : Room) s m args below meth c H locs 0 0 QQ (F0 m 211 ls [.int v_58]) := by
                    intro v_58 ls H locs e_v_58 hl hP hD hS
                    subst e_v_58
                    refine lv_istore (lv' := [(6, .int (if (if (if (if (f_X6_beamOf now i14) = (nI b) then true else false) = true then (if (f_X6_beamOf now i116) = (nI b) then (if (f_X6_goes now i14) = true then (if (f_X6_goes now i116) = true then true else false) else false) else false) else false) = true then (f_X6_size (f_X6_gap now i14 i116)) else (0 : Int32)) ≤ s116 then s116 else (if (if (if (f_X6_beamOf now i14) = (nI b) then true else false) = true then (if (f_X6_beamOf now i116) = (nI b) then (if (f_X6_goes now i14) = true then (if (f_X6_goes now i116) = true then true else false) else false) else false) else false) = true then (f_X6_size (f_X6_gap now i14 i116)) else (0 : Int32)))), (9, .int (nI i116)), (5, .int (s14.2.1 + (if (if (f_X6_beamOf now i14) = (nI b) then true else false) = true then (f_X6_pull now i14) else (0 : Int32)))), (4, .int (s14.2.2.1 ||| (if (if (f_X6_beamOf now i14) = (nI b) then true else false) = true then (if (f_X6_goes now i14) = true then ((1 : Int32) <<< ((nI i14) &&& 31)) else (0 : Int32)) else (0 : Int32)))), (3, .int (s14.2.2.2 ||| (if (if (f_X6_beamOf now i14) = (nI b) then true else false) = true then ((1 : Int32) <<< ((nI i14) &&& 31)) else (0 : Int32)))), (8, .int (bI (if (f_X6_beamOf now i14) = (nI b) then true else false))), (7, .int (nI i14)), (0, .ref (q 0)), (1, .int (nI b)), (2, .int w)]) hx hb dX6_tellBeam_211 hl (by decide) rfl (fun ls hl => ?_)
                    refine nv_iinc (k := 1) (lv' := [(9, .int (nI (i116 + 1))), (6, .int (if (if (if (if (f_X6_beamOf now i14) = (nI b) then true else false) = true then (if (f_X6_beamOf now i116) = (nI b) then (if (f_X6_goes now i14) = true then (if (f_X6_goes now i116) = true then true else false) else false) else false) else false) = true then (f_X6_size (f_X6_gap now i14 i116)) else (0 : Int32)) ≤ s116 then s116 else (if (if (if (f_X6_beamOf now i14) = (nI b) then true else false) = true then (if (f_X6_beamOf now i116) = (nI b) then (if (f_X6_goes now i14) = true then (if (f_X6_goes now i116) = true then true else false) else false) else false) else false) = true then (f_X6_size (f_X6_gap now i14 i116)) else (0 : Int32)))), (5, .int (s14.2.1 + (if (if (f_X6_beamOf now i14) = (nI b) then true else false) = true then (f_X6_pull now i14) else (0 : Int32)))), (4, .int (s14.2.2.1 ||| (if (if (f_X6_beamOf now i14) = (nI b) then true else false) = true then (if (f_X6_goes now i14) = true then ((1 : Int32) <<< ((nI i14) &&& 31)) else (0 : Int32)) else (0 : Int32)))), (3, .int (s14.2.2.2 ||| (if (if (f_X6_beamOf now i14) = (nI b) then true else false) = true then ((1 : Int32) <<< ((nI i14) &&& 31)) else (0 : Int32)))), (8, .int (bI (if (f_X6_beamOf now i14) = (nI b) then true else false))), (7, .int (nI i14)), (0, .ref (q 0)), (1, .int (nI b)), (2, .int w)]) hx hb i116 dX6_tellBeam_213 hl rfl (by decide) rfl (fun ls hl => ?_)
                    refine lv_goto (tgt := 116) hx hb dX6_tellBeam_216 (by decide) ?_
                    exact ih _ _ _ (lv_sub hl [0, 2, 3, 4, 5, 6, 1, 7, 8, 9] rfl) hP hD hS
                  refine lv_icmp_le (tgt := 209) hx hb dX6_tellBeam_201 (by decide) (fun c_55 => ?_) (fun c_55 => ?_)
                  · refine lv_iload hx hb dX6_tellBeam_209 (lv_at hl 7 rfl) ?_
                    exact hM_59 s116 _ _ _ (if_pos c_55).symm (lv_sub hl [1, 2, 3, 4, 5, 6, 8, 9, 10] rfl) hP hD hS
                  · refine lv_iload hx hb dX6_tellBeam_204 (lv_at hl 0 rfl) ?_
                    refine lv_goto (tgt := 211) hx hb dX6_tellBeam_206 (by decide) ?_
                    exact hM_59 (if (if (if (f_X6_beamOf now i14) = (nI b) then true else false) = true then (if (f_X6_beamOf now i116) = (nI b) then (if (f_X6_goes now i14) = true then (if (f_X6_goes now i116) = true then true else false) else false) else false) else false) = true then (f_X6_size (f_X6_gap now i14 i116)) else (0 : Int32)) _ _ _ (if_neg c_55).symm (lv_sub hl [1, 2, 3, 4, 5, 6, 8, 9, 10] rfl) hP hD hS
                refine bv_ifeq hx hb (if (if (f_X6_beamOf now i14) = (nI b) then true else false) = true then (if (f_X6_beamOf now i116) = (nI b) then (if (f_X6_goes now i14) = true then (if (f_X6_goes now i116) = true then true else false) else false) else false) else false) 194 dX6_tellBeam_174 (by decide) (fun c_50 => ?_) (fun c_50 => ?_)
                · refine lv_iconst (v := 0) hx hb dX6_tellBeam_194 (by decide) ?_
                  exact hM_54 (0 : Int32) _ _ _ (if_neg c_50).symm (lv_sub hl [1, 2, 3, 4, 5, 6, 7, 8, 9, 10] rfl) hP hD hS
                · refine lv_aload_n hx hb dX6_tellBeam_177 rfl (lv_at hl 8 rfl) ?_
                  refine va_get (D := G) (ci := 4) (C := RX6) (T := TX6) (N := 15) hx hb hw in_X6 hown hK hP 0 rfl rfl 1 (by decide) (hw _ aw_872) (fun _ h9 => h9) rfl dX6_tellBeam_178 ?_
                  refine lv_iload hx hb dX6_tellBeam_181 (lv_at hl 6 rfl) ?_
                  refine lv_iload hx hb dX6_tellBeam_183 (lv_at hl 1 rfl) ?_
                  refine ct_callS (As := [.ref (q 1), .int (nI i14), .int (nI i116)]) (rest := []) X hP hD hS hA (k_X6_gap l G cI cS cL (q 1) now i14 i116 (by omega) (by omega)) cq_X6_gap aw_957 ⟨Nat.le_of_ble_eq_true rfl, Nat.le_of_ble_eq_true rfl⟩ [1] (cs := [rwC (q 1) cI 129 now]) rfl (by decide) (cs' := [rwC (q 1) cI 129 now]) rfl rfl rfl hl.1 rfl (Nat.le_of_ble_eq_true rfl) dX6_tellBeam_185 ⟨Nat.zero_le _, Nat.zero_le _⟩ rfl (bs' := [mdC q refusal isShot states length at_ good runs did, rwC (q 1) cI 129 now]) rfl (fun H locs hP hD hS => ?_)
                  refine ct_callS (As := [.int (f_X6_gap now i14 i116)]) (rest := []) X hP hD hS hA (k_X6_size l G cI cS cL  (f_X6_gap now i14 i116)) cq_X6_size aw_966 ⟨Nat.le_of_ble_eq_true rfl, Nat.le_of_ble_eq_true rfl⟩ ([] : List Nat) (cs := []) rfl (by decide) (cs' := []) rfl rfl rfl hl.1 rfl (Nat.le_of_ble_eq_true rfl) dX6_tellBeam_188 ⟨Nat.zero_le _, Nat.zero_le _⟩ rfl (bs' := [mdC q refusal isShot states length at_ good runs did, rwC (q 1) cI 129 now]) rfl (fun H locs hP hD hS => ?_)
                  refine lv_goto (tgt := 195) hx hb dX6_tellBeam_191 (by decide) ?_
                  exact hM_54 (f_X6_size (f_X6_gap now i14 i116)) _ _ _ (if_pos c_50).symm (lv_sub hl [1, 2, 3, 4, 5, 6, 7, 8, 9, 10] rfl) hP hD hS
              refine bv_ifeq hx hb (if (f_X6_beamOf now i14) = (nI b) then true else false) 169 dX6_tellBeam_125 (by decide) (fun c_30 => ?_) (fun c_30 => ?_)
              · refine lv_iconst (v := 0) hx hb dX6_tellBeam_169 (by decide) ?_
                exact hM_49 false _ _ _ (if_neg c_30).symm (lv_sub hl [0, 1, 2, 3, 4, 5, 6, 7, 8, 9] rfl) hP hD hS
              · refine lv_aload_n hx hb dX6_tellBeam_128 rfl (lv_at hl 7 rfl) ?_
                refine va_get (D := G) (ci := 4) (C := RX6) (T := TX6) (N := 15) hx hb hw in_X6 hown hK hP 0 rfl rfl 1 (by decide) (hw _ aw_872) (fun _ h9 => h9) rfl dX6_tellBeam_129 ?_
                refine lv_iload hx hb dX6_tellBeam_132 (lv_at hl 0 rfl) ?_
                refine ct_callS (As := [.ref (q 1), .int (nI i116)]) (rest := []) X hP hD hS hA (k_X6_beamOf l G cI cS cL (q 1) now i116 (by omega)) cq_X6_beamOf aw_954 ⟨Nat.le_of_ble_eq_true rfl, Nat.le_of_ble_eq_true rfl⟩ [1] (cs := [rwC (q 1) cI 129 now]) rfl (by decide) (cs' := [rwC (q 1) cI 129 now]) rfl rfl rfl hl.1 rfl (Nat.le_of_ble_eq_true rfl) dX6_tellBeam_134 ⟨Nat.zero_le _, Nat.zero_le _⟩ rfl (bs' := [mdC q refusal isShot states length at_ good runs did, rwC (q 1) cI 129 now]) rfl (fun H locs hP hD hS => ?_)
                refine lv_iload_n hx hb dX6_tellBeam_137 rfl (lv_at hl 8 rfl) ?_
                have hM_46 : ∀ (v_45 : Bool) (ls : Array Slot) (H : Heap) (locs : List Loc), v_45 = (if (f_X6_beamOf now i116) = (nI b) then (if (f_X6_goes now i14) = true then (if (f_X6_goes now i116) = true then true else false) else false) else false) → lv_has ls 12 [(9, .int (nI i116)), (5, .int (s14.2.1 + (if (if (f_X6_beamOf now i14) = (nI b) then true else false) = true then (f_X6_pull now i14) else (0 : Int32)))), (4, .int (s14.2.2.1 ||| (if (if (f_X6_beamOf now i14) = (nI b) then true else false) = true then (if (f_X6_goes now i14) = true then ((1 : Int32) <<< ((nI i14) &&& 31)) else (0 : Int32)) else (0 : Int32)))), (3, .int (s14.2.2.2 ||| (if (if (f_X6_beamOf now i14) = (nI b) then true else false) = true then ((1 : Int32) <<< ((nI i14) &&& 31)) else (0 : Int32)))), (8, .int (bI (if (f_X6_beamOf now i14) = (nI b) then true else false))), (7, .int (nI i14)), (6, .int s116), (0, .ref (q 0)), (1, .int (nI b)), (2, .int w)] → va_P G classes [mdC q refusal isShot states length at_ good runs did, rwC (q 1) cI 129 now].flatten H → va_D A [mdC q refusal isShot states length at_ good runs did, rwC (q 1) cI 129 now].flatten → va_S A s.heap H locs → W p l e ({ frames := 3, cells := 0, slots := 0, locals := 66 } : Room) s m args below meth c H locs 0 0 QQ (F0 m 170 ls [.int (bI v_45)]) := by
                  intro v_45 ls H locs e_v_45 hl hP hD hS
                  subst e_v_45
                  exact hM_49 (if (f_X6_beamOf now i116) = (nI b) then (if (f_X6_goes now i14) = true then (if (f_X6_goes now i116) = true then true else false) else false) else false) _ _ _ (if_pos c_30).symm (lv_sub hl [0, 1, 2, 3, 4, 5, 6, 7, 8, 9] rfl) hP hD hS
                refine iv_ne hx hb 169 dX6_tellBeam_138 (by decide) (fun c_32 => ?_) (fun c_32 => ?_)
                · refine lv_iconst (v := 0) hx hb dX6_tellBeam_169 (by decide) ?_
                  exact hM_46 false _ _ _ (if_neg c_32).symm (lv_sub hl [0, 1, 2, 3, 4, 5, 6, 7, 8, 9] rfl) hP hD hS
                · refine lv_aload_n hx hb dX6_tellBeam_141 rfl (lv_at hl 7 rfl) ?_
                  refine va_get (D := G) (ci := 4) (C := RX6) (T := TX6) (N := 15) hx hb hw in_X6 hown hK hP 0 rfl rfl 1 (by decide) (hw _ aw_872) (fun _ h9 => h9) rfl dX6_tellBeam_142 ?_
                  refine lv_iload hx hb dX6_tellBeam_145 (lv_at hl 5 rfl) ?_
                  refine ct_callS (As := [.ref (q 1), .int (nI i14)]) (rest := []) X hP hD hS hA (k_X6_goes l G cI cS cL (q 1) now i14 (by omega)) cq_X6_goes aw_948 ⟨Nat.le_of_ble_eq_true rfl, Nat.le_of_ble_eq_true rfl⟩ [1] (cs := [rwC (q 1) cI 129 now]) rfl (by decide) (cs' := [rwC (q 1) cI 129 now]) rfl rfl rfl hl.1 rfl (Nat.le_of_ble_eq_true rfl) dX6_tellBeam_147 ⟨Nat.zero_le _, Nat.zero_le _⟩ rfl (bs' := [mdC q refusal isShot states length at_ good runs did, rwC (q 1) cI 129 now]) rfl (fun H locs hP hD hS => ?_)
                  have hM_43 : ∀ (v_42 : Bool) (ls : Array Slot) (H : Heap) (locs : List Loc), v_42 = (if (f_X6_goes now i14) = true then (if (f_X6_goes now i116) = true then true else false) else false) → lv_has ls 12 [(9, .int (nI i116)), (5, .int (s14.2.1 + (if (if (f_X6_beamOf now i14) = (nI b) then true else false) = true then (f_X6_pull now i14) else (0 : Int32)))), (4, .int (s14.2.2.1 ||| (if (if (f_X6_beamOf now i14) = (nI b) then true else false) = true then (if (f_X6_goes now i14) = true then ((1 : Int32) <<< ((nI i14) &&& 31)) else (0 : Int32)) else (0 : Int32)))), (3, .int (s14.2.2.2 ||| (if (if (f_X6_beamOf now i14) = (nI b) then true else false) = true then ((1 : Int32) <<< ((nI i14) &&& 31)) else (0 : Int32)))), (8, .int (bI (if (f_X6_beamOf now i14) = (nI b) then true else false))), (7, .int (nI i14)), (6, .int s116), (0, .ref (q 0)), (1, .int (nI b)), (2, .int w)] → va_P G classes [mdC q refusal isShot states length at_ good runs did, rwC (q 1) cI 129 now].flatten H → va_D A [mdC q refusal isShot states length at_ good runs did, rwC (q 1) cI 129 now].flatten → va_S A s.heap H locs → W p l e ({ frames := 3, cells := 0, slots := 0, locals := 66 } : Room) s m args below meth c H locs 0 0 QQ (F0 m 170 ls [.int (bI v_42)]) := by
                    intro v_42 ls H locs e_v_42 hl hP hD hS
                    subst e_v_42
                    exact hM_46 (if (f_X6_goes now i14) = true then (if (f_X6_goes now i116) = true then true else false) else false) _ _ _ (if_pos c_32).symm (lv_sub hl [0, 1, 2, 3, 4, 5, 6, 7, 8, 9] rfl) hP hD hS
                  refine bv_ifeq hx hb (f_X6_goes now i14) 169 dX6_tellBeam_150 (by decide) (fun c_34 => ?_) (fun c_34 => ?_)
                  · refine lv_iconst (v := 0) hx hb dX6_tellBeam_169 (by decide) ?_
                    exact hM_43 false _ _ _ (if_neg c_34).symm (lv_sub hl [0, 1, 2, 3, 4, 5, 6, 7, 8, 9] rfl) hP hD hS
                  · refine lv_aload_n hx hb dX6_tellBeam_153 rfl (lv_at hl 7 rfl) ?_
                    refine va_get (D := G) (ci := 4) (C := RX6) (T := TX6) (N := 15) hx hb hw in_X6 hown hK hP 0 rfl rfl 1 (by decide) (hw _ aw_872) (fun _ h9 => h9) rfl dX6_tellBeam_154 ?_
                    refine lv_iload hx hb dX6_tellBeam_157 (lv_at hl 0 rfl) ?_
                    refine ct_callS (As := [.ref (q 1), .int (nI i116)]) (rest := []) X hP hD hS hA (k_X6_goes l G cI cS cL (q 1) now i116 (by omega)) cq_X6_goes aw_948 ⟨Nat.le_of_ble_eq_true rfl, Nat.le_of_ble_eq_true rfl⟩ [1] (cs := [rwC (q 1) cI 129 now]) rfl (by decide) (cs' := [rwC (q 1) cI 129 now]) rfl rfl rfl hl.1 rfl (Nat.le_of_ble_eq_true rfl) dX6_tellBeam_159 ⟨Nat.zero_le _, Nat.zero_le _⟩ rfl (bs' := [mdC q refusal isShot states length at_ good runs did, rwC (q 1) cI 129 now]) rfl (fun H locs hP hD hS => ?_)
                    have hM_40 : ∀ (v_39 : Bool) (ls : Array Slot) (H : Heap) (locs : List Loc), v_39 = (if (f_X6_goes now i116) = true then true else false) → lv_has ls 12 [(9, .int (nI i116)), (5, .int (s14.2.1 + (if (if (f_X6_beamOf now i14) = (nI b) then true else false) = true then (f_X6_pull now i14) else (0 : Int32)))), (4, .int (s14.2.2.1 ||| (if (if (f_X6_beamOf now i14) = (nI b) then true else false) = true then (if (f_X6_goes now i14) = true then ((1 : Int32) <<< ((nI i14) &&& 31)) else (0 : Int32)) else (0 : Int32)))), (3, .int (s14.2.2.2 ||| (if (if (f_X6_beamOf now i14) = (nI b) then true else false) = true then ((1 : Int32) <<< ((nI i14) &&& 31)) else (0 : Int32)))), (8, .int (bI (if (f_X6_beamOf now i14) = (nI b) then true else false))), (7, .int (nI i14)), (6, .int s116), (0, .ref (q 0)), (1, .int (nI b)), (2, .int w)] → va_P G classes [mdC q refusal isShot states length at_ good runs did, rwC (q 1) cI 129 now].flatten H → va_D A [mdC q refusal isShot states length at_ good runs did, rwC (q 1) cI 129 now].flatten → va_S A s.heap H locs → W p l e ({ frames := 3, cells := 0, slots := 0, locals := 66 } : Room) s m args below meth c H locs 0 0 QQ (F0 m 170 ls [.int (bI v_39)]) := by
                      intro v_39 ls H locs e_v_39 hl hP hD hS
                      subst e_v_39
                      exact hM_43 (if (f_X6_goes now i116) = true then true else false) _ _ _ (if_pos c_34).symm (lv_sub hl [0, 1, 2, 3, 4, 5, 6, 7, 8, 9] rfl) hP hD hS
                    refine bv_ifeq hx hb (f_X6_goes now i116) 169 dX6_tellBeam_162 (by decide) (fun c_36 => ?_) (fun c_36 => ?_)
                    · refine lv_iconst (v := 0) hx hb dX6_tellBeam_169 (by decide) ?_
                      exact hM_40 false _ _ _ (if_neg c_36).symm (lv_sub hl [0, 1, 2, 3, 4, 5, 6, 7, 8, 9] rfl) hP hD hS
                    · refine lv_iconst (v := 1) hx hb dX6_tellBeam_165 (by decide) ?_
                      refine lv_goto (tgt := 170) hx hb dX6_tellBeam_166 (by decide) ?_
                      exact hM_40 true _ _ _ (if_pos c_36).symm (lv_sub hl [0, 1, 2, 3, 4, 5, 6, 7, 8, 9] rfl) hP hD hS
            · intro ls H locs hl hP hD hS
              refine lv_iload hx hb dX6_tellBeam_116 (lv_at hl 0 rfl) ?_
              refine lv_bipush (v := 8) hx hb dX6_tellBeam_118 (by decide) ?_
              refine nv_ge hx hb 8 8 219 (by omega) (by omega) dX6_tellBeam_120 (by decide) (fun _ => ?_) (fun hc => absurd hc (by omega))
              refine nv_iinc (k := 5) (lv' := [(7, .int (nI (i14 + 1))), (9, .int (nI 8)), (5, .int (s14.2.1 + (if (if (f_X6_beamOf now i14) = (nI b) then true else false) = true then (f_X6_pull now i14) else (0 : Int32)))), (4, .int (s14.2.2.1 ||| (if (if (f_X6_beamOf now i14) = (nI b) then true else false) = true then (if (f_X6_goes now i14) = true then ((1 : Int32) <<< ((nI i14) &&& 31)) else (0 : Int32)) else (0 : Int32)))), (3, .int (s14.2.2.2 ||| (if (if (f_X6_beamOf now i14) = (nI b) then true else false) = true then ((1 : Int32) <<< ((nI i14) &&& 31)) else (0 : Int32)))), (8, .int (bI (if (f_X6_beamOf now i14) = (nI b) then true else false))), (6, .int (it (L_X6_tellBeam_116 now b i14) (i14 + 1) (8 - (i14 + 1)) s14.1)), (0, .ref (q 0)), (1, .int (nI b)), (2, .int w)]) hx hb i14 dX6_tellBeam_219 hl rfl (by decide) rfl (fun ls hl => ?_)
              refine lv_goto (tgt := 14) hx hb dX6_tellBeam_222 (by decide) ?_
              exact ih _ _ _ (lv_sub hl [0, 6, 2, 3, 4, 7, 8, 9] rfl) hP hD hS
          refine bv_ifeq hx hb (if (f_X6_beamOf now i14) = (nI b) then true else false) 106 dX6_tellBeam_91 (by decide) (fun c_23 => ?_) (fun c_23 => ?_)
          · refine lv_iconst (v := 0) hx hb dX6_tellBeam_106 (by decide) ?_
            exact hM_27 (0 : Int32) _ _ _ (if_neg c_23).symm (lv_sub hl [0, 1, 2, 3, 4, 6, 7, 8] rfl) hP hD hS
          · refine lv_aload_n hx hb dX6_tellBeam_94 rfl (lv_at hl 6 rfl) ?_
            refine va_get (D := G) (ci := 4) (C := RX6) (T := TX6) (N := 15) hx hb hw in_X6 hown hK hP 0 rfl rfl 1 (by decide) (hw _ aw_872) (fun _ h9 => h9) rfl dX6_tellBeam_95 ?_
            refine lv_iload hx hb dX6_tellBeam_98 (lv_at hl 3 rfl) ?_
            refine ct_callS (As := [.ref (q 1), .int (nI i14)]) (rest := [.int s14.2.1]) X hP hD hS hA (k_X6_pull l G cI cS cL (q 1) now i14 (by omega) hI) cq_X6_pull aw_945 ⟨Nat.le_of_ble_eq_true rfl, Nat.le_of_ble_eq_true rfl⟩ [1] (cs := [rwC (q 1) cI 129 now]) rfl (by decide) (cs' := [rwC (q 1) cI 129 now]) rfl rfl rfl hl.1 rfl (Nat.le_of_ble_eq_true rfl) dX6_tellBeam_100 ⟨Nat.zero_le _, Nat.zero_le _⟩ rfl (bs' := [mdC q refusal isShot states length at_ good runs did, rwC (q 1) cI 129 now]) rfl (fun H locs hP hD hS => ?_)
            refine lv_goto (tgt := 107) hx hb dX6_tellBeam_103 (by decide) ?_
            exact hM_27 (f_X6_pull now i14) _ _ _ (if_pos c_23).symm (lv_sub hl [0, 1, 2, 3, 4, 6, 7, 8] rfl) hP hD hS
        refine bv_ifeq hx hb (if (f_X6_beamOf now i14) = (nI b) then true else false) 83 dX6_tellBeam_61 (by decide) (fun c_13 => ?_) (fun c_13 => ?_)
        · refine lv_iconst (v := 0) hx hb dX6_tellBeam_83 (by decide) ?_
          exact hM_22 (0 : Int32) _ _ _ (if_neg c_13).symm (lv_sub hl [0, 1, 2, 3, 4, 6, 7, 8] rfl) hP hD hS
        · refine lv_aload_n hx hb dX6_tellBeam_64 rfl (lv_at hl 6 rfl) ?_
          refine va_get (D := G) (ci := 4) (C := RX6) (T := TX6) (N := 15) hx hb hw in_X6 hown hK hP 0 rfl rfl 1 (by decide) (hw _ aw_872) (fun _ h9 => h9) rfl dX6_tellBeam_65 ?_
          refine lv_iload hx hb dX6_tellBeam_68 (lv_at hl 2 rfl) ?_
          refine ct_callS (As := [.ref (q 1), .int (nI i14)]) (rest := [.int s14.2.2.1]) X hP hD hS hA (k_X6_goes l G cI cS cL (q 1) now i14 (by omega)) cq_X6_goes aw_948 ⟨Nat.le_of_ble_eq_true rfl, Nat.le_of_ble_eq_true rfl⟩ [1] (cs := [rwC (q 1) cI 129 now]) rfl (by decide) (cs' := [rwC (q 1) cI 129 now]) rfl rfl rfl hl.1 rfl (Nat.le_of_ble_eq_true rfl) dX6_tellBeam_70 ⟨Nat.zero_le _, Nat.zero_le _⟩ rfl (bs' := [mdC q refusal isShot states length at_ good runs did, rwC (q 1) cI 129 now]) rfl (fun H locs hP hD hS => ?_)
          have hM_19 : ∀ (v_18 : Int32) (ls : Array Slot) (H : Heap) (locs : List Loc), v_18 = (if (f_X6_goes now i14) = true then ((1 : Int32) <<< ((nI i14) &&& 31)) else (0 : Int32)) → lv_has ls 12 [(3, .int (s14.2.2.2 ||| (if (if (f_X6_beamOf now i14) = (nI b) then true else false) = true then ((1 : Int32) <<< ((nI i14) &&& 31)) else (0 : Int32)))), (8, .int (bI (if (f_X6_beamOf now i14) = (nI b) then true else false))), (7, .int (nI i14)), (6, .int s14.1), (5, .int s14.2.1), (0, .ref (q 0)), (1, .int (nI b)), (2, .int w)] → va_P G classes [mdC q refusal isShot states length at_ good runs did, rwC (q 1) cI 129 now].flatten H → va_D A [mdC q refusal isShot states length at_ good runs did, rwC (q 1) cI 129 now].flatten → va_S A s.heap H locs → W p l e ({ frames := 3, cells := 0, slots := 0, locals := 66 } : Room) s m args below meth c H locs 0 0 QQ (F0 m 84 ls [.int v_18, .int s14.2.2.1]) := by
            intro v_18 ls H locs e_v_18 hl hP hD hS
            subst e_v_18
            exact hM_22 (if (f_X6_goes now i14) = true then ((1 : Int32) <<< ((nI i14) &&& 31)) else (0 : Int32)) _ _ _ (if_pos c_13).symm (lv_sub hl [0, 1, 2, 3, 4, 5, 6, 7] rfl) hP hD hS
          refine bv_ifeq hx hb (f_X6_goes now i14) 83 dX6_tellBeam_73 (by decide) (fun c_15 => ?_) (fun c_15 => ?_)
          · refine lv_iconst (v := 0) hx hb dX6_tellBeam_83 (by decide) ?_
            exact hM_19 (0 : Int32) _ _ _ (if_neg c_15).symm (lv_sub hl [0, 1, 2, 3, 4, 6, 7, 8] rfl) hP hD hS
          · refine lv_iconst (v := 1) hx hb dX6_tellBeam_76 (by decide) ?_
            refine lv_iload hx hb dX6_tellBeam_77 (lv_at hl 2 rfl) ?_
            refine lv_ishl hx hb dX6_tellBeam_79 ?_
            refine lv_goto (tgt := 84) hx hb dX6_tellBeam_80 (by decide) ?_
            exact hM_19 ((1 : Int32) <<< ((nI i14) &&& 31)) _ _ _ (if_pos c_15).symm (lv_sub hl [0, 1, 2, 3, 4, 6, 7, 8] rfl) hP hD hS
      refine bv_ifeq hx hb (if (f_X6_beamOf now i14) = (nI b) then true else false) 54 dX6_tellBeam_44 (by decide) (fun c_8 => ?_) (fun c_8 => ?_)
      · refine lv_iconst (v := 0) hx hb dX6_tellBeam_54 (by decide) ?_
        exact hM_12 (0 : Int32) _ _ _ (if_neg c_8).symm (lv_sub hl [0, 1, 2, 3, 4, 6, 7, 8] rfl) hP hD hS
      · refine lv_iconst (v := 1) hx hb dX6_tellBeam_47 (by decide) ?_
        refine lv_iload hx hb dX6_tellBeam_48 (lv_at hl 1 rfl) ?_
        refine lv_ishl hx hb dX6_tellBeam_50 ?_
        refine lv_goto (tgt := 55) hx hb dX6_tellBeam_51 (by decide) ?_
        exact hM_12 ((1 : Int32) <<< ((nI i14) &&& 31)) _ _ _ (if_pos c_8).symm (lv_sub hl [0, 1, 2, 3, 4, 6, 7, 8] rfl) hP hD hS
    refine iv_ne hx hb 38 dX6_tellBeam_31 (by decide) (fun c_3 => ?_) (fun c_3 => ?_)
    · refine lv_iconst (v := 0) hx hb dX6_tellBeam_38 (by decide) ?_
      exact hM_7 false _ _ _ (if_neg c_3).symm (lv_sub hl [0, 1, 2, 3, 4, 5, 6, 7] rfl) hP hD hS
    · refine lv_iconst (v := 1) hx hb dX6_tellBeam_34 (by decide) ?_
      refine lv_goto (tgt := 39) hx hb dX6_tellBeam_35 (by decide) ?_
      exact hM_7 true _ _ _ (if_pos c_3).symm (lv_sub hl [0, 1, 2, 3, 4, 5, 6, 7] rfl) hP hD hS
  · intro ls H locs hl hP hD hS
    refine lv_iload hx hb dX6_tellBeam_14 (lv_at hl 0 rfl) ?_
    refine lv_bipush (v := 8) hx hb dX6_tellBeam_16 (by decide) ?_
    refine nv_ge hx hb 8 8 225 (by omega) (by omega) dX6_tellBeam_18 (by decide) (fun _ => ?_) (fun hc => absurd hc (by omega))
    refine lv_iload_n hx hb dX6_tellBeam_225 rfl (lv_at hl 7 rfl) ?_
    have hM_87 : ∀ (v_86 : Int32) (ls : Array Slot) (H : Heap) (locs : List Loc), v_86 = (if w = 0 then (now (0 + b)) else (if w = (1 : Int32) then (it (L_X6_tellBeam_14 now b) 0 8 ((0 : Int32), (0 : Int32), (0 : Int32), (0 : Int32))).2.2.2 else (if w = (2 : Int32) then (it (L_X6_tellBeam_14 now b) 0 8 ((0 : Int32), (0 : Int32), (0 : Int32), (0 : Int32))).2.2.1 else (if w = (3 : Int32) then (it (L_X6_tellBeam_14 now b) 0 8 ((0 : Int32), (0 : Int32), (0 : Int32), (0 : Int32))).2.1 else (it (L_X6_tellBeam_14 now b) 0 8 ((0 : Int32), (0 : Int32), (0 : Int32), (0 : Int32))).1)))) → lv_has ls 12 [] → va_P G classes [mdC q refusal isShot states length at_ good runs did, rwC (q 1) cI 129 now].flatten H → va_D A [mdC q refusal isShot states length at_ good runs did, rwC (q 1) cI 129 now].flatten → va_S A s.heap H locs → W p l e ({ frames := 3, cells := 0, slots := 0, locals := 66 } : Room) s m args below meth c H locs 0 0 QQ (F0 m 271 ls [.int v_86]) := by
      intro v_86 ls H locs e_v_86 hl hP hD hS
      subst e_v_86
      rw [← hQQ]; exact W.iret hx hb hr (ct_end (F := (f_X6_tellBeam now b w)) (u := (if w = 0 then (now (0 + b)) else (if w = (1 : Int32) then (it (L_X6_tellBeam_14 now b) 0 8 ((0 : Int32), (0 : Int32), (0 : Int32), (0 : Int32))).2.2.2 else (if w = (2 : Int32) then (it (L_X6_tellBeam_14 now b) 0 8 ((0 : Int32), (0 : Int32), (0 : Int32), (0 : Int32))).2.2.1 else (if w = (3 : Int32) then (it (L_X6_tellBeam_14 now b) 0 8 ((0 : Int32), (0 : Int32), (0 : Int32), (0 : Int32))).2.1 else (it (L_X6_tellBeam_14 now b) 0 8 ((0 : Int32), (0 : Int32), (0 : Int32), (0 : Int32))).1))))) (rf := (fun u => some (.int u))) (wf := (fun _ => [mdC q refusal isShot states length at_ good runs did, rwC (q 1) cI 129 now].flatten)) rfl rfl hP hD hS) hS.2.2 dX6_tellBeam_271
    refine iv_ifne hx hb 240 dX6_tellBeam_226 (by decide) (fun c_68 => ?_) (fun c_68 => ?_)
    · refine lv_iload_n hx hb dX6_tellBeam_240 rfl (lv_at hl 7 rfl) ?_
      refine lv_iconst (v := 1) hx hb dX6_tellBeam_241 (by decide) ?_
      have hM_83 : ∀ (v_82 : Int32) (ls : Array Slot) (H : Heap) (locs : List Loc), v_82 = (if w = (1 : Int32) then (it (L_X6_tellBeam_14 now b) 0 8 ((0 : Int32), (0 : Int32), (0 : Int32), (0 : Int32))).2.2.2 else (if w = (2 : Int32) then (it (L_X6_tellBeam_14 now b) 0 8 ((0 : Int32), (0 : Int32), (0 : Int32), (0 : Int32))).2.2.1 else (if w = (3 : Int32) then (it (L_X6_tellBeam_14 now b) 0 8 ((0 : Int32), (0 : Int32), (0 : Int32), (0 : Int32))).2.1 else (it (L_X6_tellBeam_14 now b) 0 8 ((0 : Int32), (0 : Int32), (0 : Int32), (0 : Int32))).1))) → lv_has ls 12 [] → va_P G classes [mdC q refusal isShot states length at_ good runs did, rwC (q 1) cI 129 now].flatten H → va_D A [mdC q refusal isShot states length at_ good runs did, rwC (q 1) cI 129 now].flatten → va_S A s.heap H locs → W p l e ({ frames := 3, cells := 0, slots := 0, locals := 66 } : Room) s m args below meth c H locs 0 0 QQ (F0 m 271 ls [.int v_82]) := by
        intro v_82 ls H locs e_v_82 hl hP hD hS
        subst e_v_82
        exact hM_87 (if w = (1 : Int32) then (it (L_X6_tellBeam_14 now b) 0 8 ((0 : Int32), (0 : Int32), (0 : Int32), (0 : Int32))).2.2.2 else (if w = (2 : Int32) then (it (L_X6_tellBeam_14 now b) 0 8 ((0 : Int32), (0 : Int32), (0 : Int32), (0 : Int32))).2.2.1 else (if w = (3 : Int32) then (it (L_X6_tellBeam_14 now b) 0 8 ((0 : Int32), (0 : Int32), (0 : Int32), (0 : Int32))).2.1 else (it (L_X6_tellBeam_14 now b) 0 8 ((0 : Int32), (0 : Int32), (0 : Int32), (0 : Int32))).1))) _ _ _ (if_neg c_68).symm (lv_sub hl [] rfl) hP hD hS
      refine iv_ne hx hb 249 dX6_tellBeam_242 (by decide) (fun c_69 => ?_) (fun c_69 => ?_)
      · refine lv_iload_n hx hb dX6_tellBeam_249 rfl (lv_at hl 7 rfl) ?_
        refine lv_iconst (v := 2) hx hb dX6_tellBeam_250 (by decide) ?_
        have hM_79 : ∀ (v_78 : Int32) (ls : Array Slot) (H : Heap) (locs : List Loc), v_78 = (if w = (2 : Int32) then (it (L_X6_tellBeam_14 now b) 0 8 ((0 : Int32), (0 : Int32), (0 : Int32), (0 : Int32))).2.2.1 else (if w = (3 : Int32) then (it (L_X6_tellBeam_14 now b) 0 8 ((0 : Int32), (0 : Int32), (0 : Int32), (0 : Int32))).2.1 else (it (L_X6_tellBeam_14 now b) 0 8 ((0 : Int32), (0 : Int32), (0 : Int32), (0 : Int32))).1)) → lv_has ls 12 [] → va_P G classes [mdC q refusal isShot states length at_ good runs did, rwC (q 1) cI 129 now].flatten H → va_D A [mdC q refusal isShot states length at_ good runs did, rwC (q 1) cI 129 now].flatten → va_S A s.heap H locs → W p l e ({ frames := 3, cells := 0, slots := 0, locals := 66 } : Room) s m args below meth c H locs 0 0 QQ (F0 m 271 ls [.int v_78]) := by
          intro v_78 ls H locs e_v_78 hl hP hD hS
          subst e_v_78
          exact hM_83 (if w = (2 : Int32) then (it (L_X6_tellBeam_14 now b) 0 8 ((0 : Int32), (0 : Int32), (0 : Int32), (0 : Int32))).2.2.1 else (if w = (3 : Int32) then (it (L_X6_tellBeam_14 now b) 0 8 ((0 : Int32), (0 : Int32), (0 : Int32), (0 : Int32))).2.1 else (it (L_X6_tellBeam_14 now b) 0 8 ((0 : Int32), (0 : Int32), (0 : Int32), (0 : Int32))).1)) _ _ _ (if_neg c_69).symm (lv_sub hl [] rfl) hP hD hS
        refine iv_ne hx hb 259 dX6_tellBeam_251 (by decide) (fun c_70 => ?_) (fun c_70 => ?_)
        · refine lv_iload_n hx hb dX6_tellBeam_259 rfl (lv_at hl 7 rfl) ?_
          refine lv_iconst (v := 3) hx hb dX6_tellBeam_260 (by decide) ?_
          have hM_75 : ∀ (v_74 : Int32) (ls : Array Slot) (H : Heap) (locs : List Loc), v_74 = (if w = (3 : Int32) then (it (L_X6_tellBeam_14 now b) 0 8 ((0 : Int32), (0 : Int32), (0 : Int32), (0 : Int32))).2.1 else (it (L_X6_tellBeam_14 now b) 0 8 ((0 : Int32), (0 : Int32), (0 : Int32), (0 : Int32))).1) → lv_has ls 12 [] → va_P G classes [mdC q refusal isShot states length at_ good runs did, rwC (q 1) cI 129 now].flatten H → va_D A [mdC q refusal isShot states length at_ good runs did, rwC (q 1) cI 129 now].flatten → va_S A s.heap H locs → W p l e ({ frames := 3, cells := 0, slots := 0, locals := 66 } : Room) s m args below meth c H locs 0 0 QQ (F0 m 271 ls [.int v_74]) := by
            intro v_74 ls H locs e_v_74 hl hP hD hS
            subst e_v_74
            exact hM_79 (if w = (3 : Int32) then (it (L_X6_tellBeam_14 now b) 0 8 ((0 : Int32), (0 : Int32), (0 : Int32), (0 : Int32))).2.1 else (it (L_X6_tellBeam_14 now b) 0 8 ((0 : Int32), (0 : Int32), (0 : Int32), (0 : Int32))).1) _ _ _ (if_neg c_70).symm (lv_sub hl [] rfl) hP hD hS
          refine iv_ne hx hb 269 dX6_tellBeam_261 (by decide) (fun c_71 => ?_) (fun c_71 => ?_)
          · refine lv_iload hx hb dX6_tellBeam_269 (lv_at hl 1 rfl) ?_
            exact hM_75 ((it (L_X6_tellBeam_14 now b) 0 8 ((0 : Int32), (0 : Int32), (0 : Int32), (0 : Int32))).1) _ _ _ (if_neg c_71).symm (lv_sub hl [] rfl) hP hD hS
          · refine lv_iload hx hb dX6_tellBeam_264 (lv_at hl 2 rfl) ?_
            refine lv_goto (tgt := 271) hx hb dX6_tellBeam_266 (by decide) ?_
            exact hM_75 ((it (L_X6_tellBeam_14 now b) 0 8 ((0 : Int32), (0 : Int32), (0 : Int32), (0 : Int32))).2.1) _ _ _ (if_pos c_71).symm (lv_sub hl [] rfl) hP hD hS
        · refine lv_iload hx hb dX6_tellBeam_254 (lv_at hl 3 rfl) ?_
          refine lv_goto (tgt := 271) hx hb dX6_tellBeam_256 (by decide) ?_
          exact hM_79 ((it (L_X6_tellBeam_14 now b) 0 8 ((0 : Int32), (0 : Int32), (0 : Int32), (0 : Int32))).2.2.1) _ _ _ (if_pos c_70).symm (lv_sub hl [] rfl) hP hD hS
      · refine lv_iload_n hx hb dX6_tellBeam_245 rfl (lv_at hl 4 rfl) ?_
        refine lv_goto (tgt := 271) hx hb dX6_tellBeam_246 (by decide) ?_
        exact hM_83 ((it (L_X6_tellBeam_14 now b) 0 8 ((0 : Int32), (0 : Int32), (0 : Int32), (0 : Int32))).2.2.2) _ _ _ (if_pos c_69).symm (lv_sub hl [] rfl) hP hD hS
    · refine lv_aload_n hx hb dX6_tellBeam_229 rfl (lv_at hl 5 rfl) ?_
      refine va_get (D := G) (ci := 4) (C := RX6) (T := TX6) (N := 15) hx hb hw in_X6 hown hK hP 0 rfl rfl 1 (by decide) (hw _ aw_872) (fun _ h9 => h9) rfl dX6_tellBeam_230 ?_
      refine lv_iconst (v := 0) hx hb dX6_tellBeam_233 (by decide) ?_
      refine lv_iload_n hx hb dX6_tellBeam_234 rfl (lv_at hl 6 rfl) ?_
      refine nv_iadd hx hb 0 b dX6_tellBeam_235 ?_
      refine nv_iald hx hb hK hP 1 0 rfl rfl (0 + b) (by omega) (by decide) dX6_tellBeam_236 ?_
      refine lv_goto (tgt := 271) hx hb dX6_tellBeam_237 (by decide) ?_
      exact hM_87 (now (0 + b)) _ _ _ (if_pos c_68).symm (lv_sub hl [] rfl) hP hD hS
set_option maxRecDepth 100000 in
set_option maxHeartbeats 4000000 in
theorem k_X6_beam (l : Launch) (G : va_G) (cI cS cL : ClassId) (q : Nat → Nat) (refusal : Int32) (isShot : Bool) (states : Nat) (length : Nat) (at_ : Nat) (good : Bool) (runs : Bool) (did : Int32) (now : Nat → Int32) (b : Nat) (w : Int32) (hb3 : b < 3) (hI : InvB now) (hrf : ¬ (((f_X6_refused (if (f_X6_isBeam (nI b)) = true then (if (f_X6_in w.toInt64 (0 : Int64) (4 : Int64)) = true then (0 : Int32) else (2 : Int32)) else (1 : Int32))).1) = true)) : Ct l G (tyl cI cS cL) yX6_beam cX6_beam 3 (some (Jvm.ClassFile.FieldType.int)) 4 97 0 0 [.ref (q 0), .int (nI b), .int w] [mdC q refusal isShot states length at_ good runs did, rwC (q 1) cI 129 now].flatten (f_X6_beam now b w) (fun u => some (.int u.1)) (fun u => [mdC q u.2 isShot states length at_ good runs did, rwC (q 1) cI 129 now].flatten) := by
  refine Ct.of (by decide +kernel) (Nat.le_of_ble_eq_true rfl) ?_
  intro p e s m args below meth c A ls hx hb hr hml hw hown hlocks hin hK hN hP hD hS hA hl
  have hown : s.vm.findClass RX6 = some m.cls := hown
  have X : Cx p s m args c cX6_beam 3 RX6 G (tyl cI cS cL) := ⟨hx, hb, hml, hown, hw, hK, hN⟩
  have hP : va_P G classes [mdC q refusal isShot states length at_ good runs did, rwC (q 1) cI 129 now].flatten s.heap := hP
  have hl : lv_has ls 3 [(0, .ref (q 0)), (1, .int (nI b)), (2, .int w)] := hl
  generalize hQQ : MQ below _ args s 0 0 A = QQ
  refine lv_aload_n hx hb dX6_beam_0 rfl (lv_at hl 0 rfl) ?_
  refine lv_iload_n hx hb dX6_beam_1 rfl (lv_at hl 1 rfl) ?_
  refine ct_callS (As := [.int (nI b)]) (rest := [.ref (q 0)]) X hP hD hS hA (k_X6_isBeam l G cI cS cL  (nI b)) cq_X6_isBeam aw_987 ⟨Nat.le_of_ble_eq_true rfl, Nat.le_of_ble_eq_true rfl⟩ ([] : List Nat) (cs := []) rfl (by decide) (cs' := []) rfl rfl rfl hl.1 rfl (Nat.le_of_ble_eq_true rfl) dX6_beam_2 ⟨Nat.zero_le _, Nat.zero_le _⟩ rfl (bs' := [mdC q refusal isShot states length at_ good runs did, rwC (q 1) cI 129 now]) rfl (fun H locs hP hD hS => ?_)
  have hM_10 : ∀ (v_9 : Int32) (ls : Array Slot) (H : Heap) (locs : List Loc), v_9 = (if (f_X6_isBeam (nI b)) = true then (if (f_X6_in w.toInt64 (0 : Int64) (4 : Int64)) = true then (0 : Int32) else (2 : Int32)) else (1 : Int32)) → lv_has ls 3 [(0, .ref (q 0)), (1, .int (nI b)), (2, .int w)] → va_P G classes [mdC q refusal isShot states length at_ good runs did, rwC (q 1) cI 129 now].flatten H → va_D A [mdC q refusal isShot states length at_ good runs did, rwC (q 1) cI 129 now].flatten → va_S A s.heap H locs → W p l e ({ frames := 4, cells := 0, slots := 0, locals := 97 } : Room) s m args below meth c H locs 0 0 QQ (F0 m 29 ls [.int v_9, .ref (q 0)]) := by
    intro v_9 ls H locs e_v_9 hl hP hD hS
    subst e_v_9
    refine ct_callV (As := [.int (if (f_X6_isBeam (nI b)) = true then (if (f_X6_in w.toInt64 (0 : Int64) (4 : Int64)) = true then (0 : Int32) else (2 : Int32)) else (1 : Int32))]) (rest := []) X hP hD hS hA (k_X6_refused l G cI cS cL q refusal isShot states length at_ good runs did (if (f_X6_isBeam (nI b)) = true then (if (f_X6_in w.toInt64 (0 : Int64) (4 : Int64)) = true then (0 : Int32) else (2 : Int32)) else (1 : Int32))) cp_X6_refused aw_929 ⟨Nat.le_of_ble_eq_true rfl, Nat.le_of_ble_eq_true rfl⟩ [0] (cs := [mdC q refusal isShot states length at_ good runs did]) rfl (by decide) (cs' := [mdC q ((f_X6_refused (if (f_X6_isBeam (nI b)) = true then (if (f_X6_in w.toInt64 (0 : Int64) (4 : Int64)) = true then (0 : Int32) else (2 : Int32)) else (1 : Int32))).2) isShot states length at_ good runs did]) rfl rfl 4 rfl rfl (q0 := 0) rfl rfl hl.1 rfl (Nat.le_of_ble_eq_true rfl) dX6_beam_29 ⟨Nat.zero_le _, Nat.zero_le _⟩ rfl (bs' := [mdC q ((f_X6_refused (if (f_X6_isBeam (nI b)) = true then (if (f_X6_in w.toInt64 (0 : Int64) (4 : Int64)) = true then (0 : Int32) else (2 : Int32)) else (1 : Int32))).2) isShot states length at_ good runs did, rwC (q 1) cI 129 now]) rfl (fun H locs hP hD hS => ?_)
    refine bv_ifeq hx hb ((f_X6_refused (if (f_X6_isBeam (nI b)) = true then (if (f_X6_in w.toInt64 (0 : Int64) (4 : Int64)) = true then (0 : Int32) else (2 : Int32)) else (1 : Int32))).1) 37 dX6_beam_32 (by decide) (fun c_11 => ?_) (fun c => absurd c hrf)
    refine lv_aload_n hx hb dX6_beam_37 rfl (lv_at hl 0 rfl) ?_
    refine lv_iload_n hx hb dX6_beam_38 rfl (lv_at hl 1 rfl) ?_
    refine lv_iload_n hx hb dX6_beam_39 rfl (lv_at hl 2 rfl) ?_
    refine ct_callV (As := [.int (nI b), .int w]) (rest := []) X hP hD hS hA (k_X6_tellBeam l G cI cS cL q ((f_X6_refused (if (f_X6_isBeam (nI b)) = true then (if (f_X6_in w.toInt64 (0 : Int64) (4 : Int64)) = true then (0 : Int32) else (2 : Int32)) else (1 : Int32))).2) isShot states length at_ good runs did now b w (by omega) hI) cp_X6_tellBeam aw_1128 ⟨Nat.le_of_ble_eq_true rfl, Nat.le_of_ble_eq_true rfl⟩ [0, 1] (cs := [mdC q ((f_X6_refused (if (f_X6_isBeam (nI b)) = true then (if (f_X6_in w.toInt64 (0 : Int64) (4 : Int64)) = true then (0 : Int32) else (2 : Int32)) else (1 : Int32))).2) isShot states length at_ good runs did, rwC (q 1) cI 129 now]) rfl (by decide) (cs' := [mdC q ((f_X6_refused (if (f_X6_isBeam (nI b)) = true then (if (f_X6_in w.toInt64 (0 : Int64) (4 : Int64)) = true then (0 : Int32) else (2 : Int32)) else (1 : Int32))).2) isShot states length at_ good runs did, rwC (q 1) cI 129 now]) rfl rfl 4 rfl rfl (q0 := 0) rfl rfl hl.1 rfl (Nat.le_of_ble_eq_true rfl) dX6_beam_40 ⟨Nat.zero_le _, Nat.zero_le _⟩ rfl (bs' := [mdC q ((f_X6_refused (if (f_X6_isBeam (nI b)) = true then (if (f_X6_in w.toInt64 (0 : Int64) (4 : Int64)) = true then (0 : Int32) else (2 : Int32)) else (1 : Int32))).2) isShot states length at_ good runs did, rwC (q 1) cI 129 now]) rfl (fun H locs hP hD hS => ?_)
    rw [← hQQ]; exact W.iret hx hb hr (ct_end (F := (f_X6_beam now b w)) (u := ((f_X6_tellBeam now b w), (f_X6_refused (if (f_X6_isBeam (nI b)) = true then (if (f_X6_in w.toInt64 (0 : Int64) (4 : Int64)) = true then (0 : Int32) else (2 : Int32)) else (1 : Int32))).2)) (rf := (fun u => some (.int u.1))) (wf := (fun u => [mdC q u.2 isShot states length at_ good runs did, rwC (q 1) cI 129 now].flatten)) rfl rfl hP hD hS) hS.2.2 dX6_beam_43
  refine bv_ifne hx hb (f_X6_isBeam (nI b)) 12 dX6_beam_5 (by decide) (fun c_1 => ?_) (fun c_1 => ?_)
  · refine lv_iload_n hx hb dX6_beam_12 rfl (lv_at hl 2 rfl) ?_
    refine lv_i2l hx hb dX6_beam_13 rfl ?_
    refine lv_lconst (v := 0) hx hb dX6_beam_14 (by decide) ?_
    refine lv_ldc2 hx hb hown (hw _ aw_1127) dX6_beam_15 ?_
    refine ct_callS (As := [.long w.toInt64, .long (0 : Int64), .long (4 : Int64)]) (rest := [.ref (q 0)]) X hP hD hS hA (k_X6_in l G cI cS cL  w.toInt64 (0 : Int64) (4 : Int64)) cq_X6_in aw_926 ⟨Nat.le_of_ble_eq_true rfl, Nat.le_of_ble_eq_true rfl⟩ ([] : List Nat) (cs := []) rfl (by decide) (cs' := []) rfl rfl rfl hl.1 rfl (Nat.le_of_ble_eq_true rfl) dX6_beam_18 ⟨Nat.zero_le _, Nat.zero_le _⟩ rfl (bs' := [mdC q refusal isShot states length at_ good runs did, rwC (q 1) cI 129 now]) rfl (fun H locs hP hD hS => ?_)
    have hM_6 : ∀ (v_5 : Int32) (ls : Array Slot) (H : Heap) (locs : List Loc), v_5 = (if (f_X6_in w.toInt64 (0 : Int64) (4 : Int64)) = true then (0 : Int32) else (2 : Int32)) → lv_has ls 3 [(0, .ref (q 0)), (1, .int (nI b)), (2, .int w)] → va_P G classes [mdC q refusal isShot states length at_ good runs did, rwC (q 1) cI 129 now].flatten H → va_D A [mdC q refusal isShot states length at_ good runs did, rwC (q 1) cI 129 now].flatten → va_S A s.heap H locs → W p l e ({ frames := 4, cells := 0, slots := 0, locals := 97 } : Room) s m args below meth c H locs 0 0 QQ (F0 m 29 ls [.int v_5, .ref (q 0)]) := by
      intro v_5 ls H locs e_v_5 hl hP hD hS
      subst e_v_5
      exact hM_10 (if (f_X6_in w.toInt64 (0 : Int64) (4 : Int64)) = true then (0 : Int32) else (2 : Int32)) _ _ _ (if_pos c_1).symm (lv_sub hl [0, 1, 2] rfl) hP hD hS
    refine bv_ifne hx hb (f_X6_in w.toInt64 (0 : Int64) (4 : Int64)) 28 dX6_beam_21 (by decide) (fun c_2 => ?_) (fun c_2 => ?_)
    · refine lv_iconst (v := 0) hx hb dX6_beam_28 (by decide) ?_
      exact hM_6 (0 : Int32) _ _ _ (if_pos c_2).symm (lv_sub hl [0, 1, 2] rfl) hP hD hS
    · refine lv_iconst (v := 2) hx hb dX6_beam_24 (by decide) ?_
      refine lv_goto (tgt := 29) hx hb dX6_beam_25 (by decide) ?_
      exact hM_6 (2 : Int32) _ _ _ (if_neg c_2).symm (lv_sub hl [0, 1, 2] rfl) hP hD hS
  · refine lv_iconst (v := 1) hx hb dX6_beam_8 (by decide) ?_
    refine lv_goto (tgt := 29) hx hb dX6_beam_9 (by decide) ?_
    exact hM_10 (1 : Int32) _ _ _ (if_neg c_1).symm (lv_sub hl [0, 1, 2] rfl) hP hD hS
set_option maxRecDepth 100000 in
set_option maxHeartbeats 4000000 in
theorem k_X6_beam_R (l : Launch) (G : va_G) (cI cS cL : ClassId) (q : Nat → Nat) (refusal : Int32) (isShot : Bool) (states : Nat) (length : Nat) (at_ : Nat) (good : Bool) (runs : Bool) (did : Int32) (now : Nat → Int32) (b : Int32) (w : Int32) (hrf : ((f_X6_refused (if (f_X6_isBeam b) = true then (if (f_X6_in w.toInt64 (0 : Int64) (4 : Int64)) = true then (0 : Int32) else (2 : Int32)) else (1 : Int32))).1) = true) : Ct l G (tyl cI cS cL) yX6_beam cX6_beam 3 (some (Jvm.ClassFile.FieldType.int)) 2 45 0 0 [.ref (q 0), .int b, .int w] [mdC q refusal isShot states length at_ good runs did, rwC (q 1) cI 129 now].flatten (f_X6_beam_R b w) (fun u => some (.int u.1)) (fun u => [mdC q u.2 isShot states length at_ good runs did, rwC (q 1) cI 129 now].flatten) := by
  refine Ct.of (by decide +kernel) (Nat.le_of_ble_eq_true rfl) ?_
  intro p e s m args below meth c A ls hx hb hr hml hw hown hlocks hin hK hN hP hD hS hA hl
  have hown : s.vm.findClass RX6 = some m.cls := hown
  have X : Cx p s m args c cX6_beam 3 RX6 G (tyl cI cS cL) := ⟨hx, hb, hml, hown, hw, hK, hN⟩
  have hP : va_P G classes [mdC q refusal isShot states length at_ good runs did, rwC (q 1) cI 129 now].flatten s.heap := hP
  have hl : lv_has ls 3 [(0, .ref (q 0)), (1, .int b), (2, .int w)] := hl
  generalize hQQ : MQ below _ args s 0 0 A = QQ
  refine lv_aload_n hx hb dX6_beam_0 rfl (lv_at hl 0 rfl) ?_
  refine lv_iload_n hx hb dX6_beam_1 rfl (lv_at hl 1 rfl) ?_
  refine ct_callS (As := [.int b]) (rest := [.ref (q 0)]) X hP hD hS hA (k_X6_isBeam l G cI cS cL  b) cq_X6_isBeam aw_987 ⟨Nat.le_of_ble_eq_true rfl, Nat.le_of_ble_eq_true rfl⟩ ([] : List Nat) (cs := []) rfl (by decide) (cs' := []) rfl rfl rfl hl.1 rfl (Nat.le_of_ble_eq_true rfl) dX6_beam_2 ⟨Nat.zero_le _, Nat.zero_le _⟩ rfl (bs' := [mdC q refusal isShot states length at_ good runs did, rwC (q 1) cI 129 now]) rfl (fun H locs hP hD hS => ?_)
  have hM_10 : ∀ (v_9 : Int32) (ls : Array Slot) (H : Heap) (locs : List Loc), v_9 = (if (f_X6_isBeam b) = true then (if (f_X6_in w.toInt64 (0 : Int64) (4 : Int64)) = true then (0 : Int32) else (2 : Int32)) else (1 : Int32)) → lv_has ls 3 [(0, .ref (q 0)), (1, .int b), (2, .int w)] → va_P G classes [mdC q refusal isShot states length at_ good runs did, rwC (q 1) cI 129 now].flatten H → va_D A [mdC q refusal isShot states length at_ good runs did, rwC (q 1) cI 129 now].flatten → va_S A s.heap H locs → W p l e ({ frames := 2, cells := 0, slots := 0, locals := 45 } : Room) s m args below meth c H locs 0 0 QQ (F0 m 29 ls [.int v_9, .ref (q 0)]) := by
    intro v_9 ls H locs e_v_9 hl hP hD hS
    subst e_v_9
    refine ct_callV (As := [.int (if (f_X6_isBeam b) = true then (if (f_X6_in w.toInt64 (0 : Int64) (4 : Int64)) = true then (0 : Int32) else (2 : Int32)) else (1 : Int32))]) (rest := []) X hP hD hS hA (k_X6_refused l G cI cS cL q refusal isShot states length at_ good runs did (if (f_X6_isBeam b) = true then (if (f_X6_in w.toInt64 (0 : Int64) (4 : Int64)) = true then (0 : Int32) else (2 : Int32)) else (1 : Int32))) cp_X6_refused aw_929 ⟨Nat.le_of_ble_eq_true rfl, Nat.le_of_ble_eq_true rfl⟩ [0] (cs := [mdC q refusal isShot states length at_ good runs did]) rfl (by decide) (cs' := [mdC q ((f_X6_refused (if (f_X6_isBeam b) = true then (if (f_X6_in w.toInt64 (0 : Int64) (4 : Int64)) = true then (0 : Int32) else (2 : Int32)) else (1 : Int32))).2) isShot states length at_ good runs did]) rfl rfl 4 rfl rfl (q0 := 0) rfl rfl hl.1 rfl (Nat.le_of_ble_eq_true rfl) dX6_beam_29 ⟨Nat.zero_le _, Nat.zero_le _⟩ rfl (bs' := [mdC q ((f_X6_refused (if (f_X6_isBeam b) = true then (if (f_X6_in w.toInt64 (0 : Int64) (4 : Int64)) = true then (0 : Int32) else (2 : Int32)) else (1 : Int32))).2) isShot states length at_ good runs did, rwC (q 1) cI 129 now]) rfl (fun H locs hP hD hS => ?_)
    refine bv_ifeq hx hb ((f_X6_refused (if (f_X6_isBeam b) = true then (if (f_X6_in w.toInt64 (0 : Int64) (4 : Int64)) = true then (0 : Int32) else (2 : Int32)) else (1 : Int32))).1) 37 dX6_beam_32 (by decide) (fun c => absurd hrf c) (fun c_11 => ?_)
    refine lv_iconst (v := 0) hx hb dX6_beam_35 (by decide) ?_
    rw [← hQQ]; exact W.iret hx hb hr (ct_end (F := (f_X6_beam_R b w)) (u := ((0 : Int32), (f_X6_refused (if (f_X6_isBeam b) = true then (if (f_X6_in w.toInt64 (0 : Int64) (4 : Int64)) = true then (0 : Int32) else (2 : Int32)) else (1 : Int32))).2)) (rf := (fun u => some (.int u.1))) (wf := (fun u => [mdC q u.2 isShot states length at_ good runs did, rwC (q 1) cI 129 now].flatten)) rfl rfl hP hD hS) hS.2.2 dX6_beam_36
  refine bv_ifne hx hb (f_X6_isBeam b) 12 dX6_beam_5 (by decide) (fun c_1 => ?_) (fun c_1 => ?_)
  · refine lv_iload_n hx hb dX6_beam_12 rfl (lv_at hl 2 rfl) ?_
    refine lv_i2l hx hb dX6_beam_13 rfl ?_
    refine lv_lconst (v := 0) hx hb dX6_beam_14 (by decide) ?_
    refine lv_ldc2 hx hb hown (hw _ aw_1127) dX6_beam_15 ?_
    refine ct_callS (As := [.long w.toInt64, .long (0 : Int64), .long (4 : Int64)]) (rest := [.ref (q 0)]) X hP hD hS hA (k_X6_in l G cI cS cL  w.toInt64 (0 : Int64) (4 : Int64)) cq_X6_in aw_926 ⟨Nat.le_of_ble_eq_true rfl, Nat.le_of_ble_eq_true rfl⟩ ([] : List Nat) (cs := []) rfl (by decide) (cs' := []) rfl rfl rfl hl.1 rfl (Nat.le_of_ble_eq_true rfl) dX6_beam_18 ⟨Nat.zero_le _, Nat.zero_le _⟩ rfl (bs' := [mdC q refusal isShot states length at_ good runs did, rwC (q 1) cI 129 now]) rfl (fun H locs hP hD hS => ?_)
    have hM_6 : ∀ (v_5 : Int32) (ls : Array Slot) (H : Heap) (locs : List Loc), v_5 = (if (f_X6_in w.toInt64 (0 : Int64) (4 : Int64)) = true then (0 : Int32) else (2 : Int32)) → lv_has ls 3 [(0, .ref (q 0)), (1, .int b), (2, .int w)] → va_P G classes [mdC q refusal isShot states length at_ good runs did, rwC (q 1) cI 129 now].flatten H → va_D A [mdC q refusal isShot states length at_ good runs did, rwC (q 1) cI 129 now].flatten → va_S A s.heap H locs → W p l e ({ frames := 2, cells := 0, slots := 0, locals := 45 } : Room) s m args below meth c H locs 0 0 QQ (F0 m 29 ls [.int v_5, .ref (q 0)]) := by
      intro v_5 ls H locs e_v_5 hl hP hD hS
      subst e_v_5
      exact hM_10 (if (f_X6_in w.toInt64 (0 : Int64) (4 : Int64)) = true then (0 : Int32) else (2 : Int32)) _ _ _ (if_pos c_1).symm (lv_sub hl [0, 1, 2] rfl) hP hD hS
    refine bv_ifne hx hb (f_X6_in w.toInt64 (0 : Int64) (4 : Int64)) 28 dX6_beam_21 (by decide) (fun c_2 => ?_) (fun c_2 => ?_)
    · refine lv_iconst (v := 0) hx hb dX6_beam_28 (by decide) ?_
      exact hM_6 (0 : Int32) _ _ _ (if_pos c_2).symm (lv_sub hl [0, 1, 2] rfl) hP hD hS
    · refine lv_iconst (v := 2) hx hb dX6_beam_24 (by decide) ?_
      refine lv_goto (tgt := 29) hx hb dX6_beam_25 (by decide) ?_
      exact hM_6 (2 : Int32) _ _ _ (if_neg c_2).symm (lv_sub hl [0, 1, 2] rfl) hP hD hS
  · refine lv_iconst (v := 1) hx hb dX6_beam_8 (by decide) ?_
    refine lv_goto (tgt := 29) hx hb dX6_beam_9 (by decide) ?_
    exact hM_10 (1 : Int32) _ _ _ (if_neg c_1).symm (lv_sub hl [0, 1, 2] rfl) hP hD hS
set_option maxRecDepth 100000 in
set_option maxHeartbeats 4000000 in
theorem k_X6_tellCount (l : Launch) (G : va_G) (cI cS cL : ClassId) (q : Nat → Nat) (refusal : Int32) (isShot : Bool) (states : Nat) (length : Nat) (at_ : Nat) (good : Bool) (runs : Bool) (did : Int32) (now : Nat → Int32) (group : Nat → Int32) (w : Int32) : Ct l G (tyl cI cS cL) yX6_tellCount cX6_tellCount 2 (some (Jvm.ClassFile.FieldType.int)) 5 119 0 0 [.ref (q 0), .int w] [mdC q refusal isShot states length at_ good runs did, rwC (q 1) cI 129 now, rwC (q 6) cI 8 group].flatten (f_X6_tellCount states now group w) (fun u => some (.int u.1)) (fun u => [mdC q refusal isShot states length at_ good runs did, rwC (q 1) cI 129 now, rwC (q 6) cI 8 u.2].flatten) := by
  refine Ct.of (by decide +kernel) (Nat.le_of_ble_eq_true rfl) ?_
  intro p e s m args below meth c A ls hx hb hr hml hw hown hlocks hin hK hN hP hD hS hA hl
  have hown : s.vm.findClass RX6 = some m.cls := hown
  have X : Cx p s m args c cX6_tellCount 2 RX6 G (tyl cI cS cL) := ⟨hx, hb, hml, hown, hw, hK, hN⟩
  have hP : va_P G classes [mdC q refusal isShot states length at_ good runs did, rwC (q 1) cI 129 now, rwC (q 6) cI 8 group].flatten s.heap := hP
  have hl : lv_has ls 2 [(0, .ref (q 0)), (1, .int w)] := hl
  generalize hQQ : MQ below _ args s 0 0 A = QQ
  refine lv_iload_n hx hb dX6_tellCount_0 rfl (lv_at hl 1 rfl) ?_
  rcases Classical.em (w = 0) with c_1 | c_1
  · refine lv_tableIn (off := 51) (tgt := 52) hx hb dX6_tellCount_1 (by rw [c_1]; decide) (by rw [c_1]; decide) (by rw [c_1]; rfl) (by decide) ?_
    refine lv_aload_n hx hb dX6_tellCount_52 rfl (lv_at hl 0 rfl) ?_
    refine va_get (D := G) (ci := 4) (C := RX6) (T := TX6) (N := 15) hx hb hw in_X6 hown hK hP 0 rfl rfl 1 (by decide) (hw _ aw_872) (fun _ h9 => h9) rfl dX6_tellCount_53 ?_
    refine lv_bipush (v := 126) hx hb dX6_tellCount_56 (by decide) ?_
    refine nv_iald hx hb hK hP 1 0 rfl rfl 126 (by omega) (by decide) dX6_tellCount_58 ?_
    rw [← hQQ]; exact W.iret hx hb hr (ct_end (F := (f_X6_tellCount states now group w)) (u := ((now 126), group)) (rf := (fun u => some (.int u.1))) (wf := (fun u => [mdC q refusal isShot states length at_ good runs did, rwC (q 1) cI 129 now, rwC (q 6) cI 8 u.2].flatten)) (by first | (unfold f_X6_tellCount; rw [if_pos c_1]; first | done | rfl) | (unfold f_X6_tellCount; simp only [if_pos c_1])) rfl hP hD hS) hS.2.2 dX6_tellCount_59
  rcases Classical.em (w = 1) with c_3 | c_3
  · refine lv_tableIn (off := 59) (tgt := 60) hx hb dX6_tellCount_1 (by rw [c_3]; decide) (by rw [c_3]; decide) (by rw [c_3]; rfl) (by decide) ?_
    refine lv_aload_n hx hb dX6_tellCount_60 rfl (lv_at hl 0 rfl) ?_
    refine ct_callV (As := []) (rest := []) X hP hD hS hA (k_X6_allStrikes l G cI cS cL q refusal isShot states length at_ good runs did now) cp_X6_allStrikes aw_1141 ⟨Nat.le_of_ble_eq_true rfl, Nat.le_of_ble_eq_true rfl⟩ [0, 1] (cs := [mdC q refusal isShot states length at_ good runs did, rwC (q 1) cI 129 now]) rfl (by decide) (cs' := [mdC q refusal isShot states length at_ good runs did, rwC (q 1) cI 129 now]) rfl rfl 4 rfl rfl (q0 := 0) rfl rfl hl.1 rfl (Nat.le_of_ble_eq_true rfl) dX6_tellCount_61 ⟨Nat.zero_le _, Nat.zero_le _⟩ rfl (bs' := [mdC q refusal isShot states length at_ good runs did, rwC (q 1) cI 129 now, rwC (q 6) cI 8 group]) rfl (fun H locs hP hD hS => ?_)
    rw [← hQQ]; exact W.iret hx hb hr (ct_end (F := (f_X6_tellCount states now group w)) (u := ((f_X6_allStrikes now), group)) (rf := (fun u => some (.int u.1))) (wf := (fun u => [mdC q refusal isShot states length at_ good runs did, rwC (q 1) cI 129 now, rwC (q 6) cI 8 u.2].flatten)) (by first | (unfold f_X6_tellCount; rw [if_neg c_1, if_pos c_3]; first | done | rfl) | (unfold f_X6_tellCount; simp only [if_neg c_1, if_pos c_3])) rfl hP hD hS) hS.2.2 dX6_tellCount_64
  rcases Classical.em (w = 2) with c_5 | c_5
  · refine lv_tableIn (off := 64) (tgt := 65) hx hb dX6_tellCount_1 (by rw [c_5]; decide) (by rw [c_5]; decide) (by rw [c_5]; rfl) (by decide) ?_
    refine lv_aload_n hx hb dX6_tellCount_65 rfl (lv_at hl 0 rfl) ?_
    refine ct_callV (As := []) (rest := []) X hP hD hS hA (k_X6_going l G cI cS cL q refusal isShot states length at_ good runs did now) cp_X6_going aw_1145 ⟨Nat.le_of_ble_eq_true rfl, Nat.le_of_ble_eq_true rfl⟩ [0, 1] (cs := [mdC q refusal isShot states length at_ good runs did, rwC (q 1) cI 129 now]) rfl (by decide) (cs' := [mdC q refusal isShot states length at_ good runs did, rwC (q 1) cI 129 now]) rfl rfl 4 rfl rfl (q0 := 0) rfl rfl hl.1 rfl (Nat.le_of_ble_eq_true rfl) dX6_tellCount_66 ⟨Nat.zero_le _, Nat.zero_le _⟩ rfl (bs' := [mdC q refusal isShot states length at_ good runs did, rwC (q 1) cI 129 now, rwC (q 6) cI 8 group]) rfl (fun H locs hP hD hS => ?_)
    rw [← hQQ]; exact W.iret hx hb hr (ct_end (F := (f_X6_tellCount states now group w)) (u := ((f_X6_going now), group)) (rf := (fun u => some (.int u.1))) (wf := (fun u => [mdC q refusal isShot states length at_ good runs did, rwC (q 1) cI 129 now, rwC (q 6) cI 8 u.2].flatten)) (by first | (unfold f_X6_tellCount; rw [if_neg c_1, if_neg c_3, if_pos c_5]; first | done | rfl) | (unfold f_X6_tellCount; simp only [if_neg c_1, if_neg c_3, if_pos c_5])) rfl hP hD hS) hS.2.2 dX6_tellCount_69
  rcases Classical.em (w = 3) with c_7 | c_7
  · refine lv_tableIn (off := 69) (tgt := 70) hx hb dX6_tellCount_1 (by rw [c_7]; decide) (by rw [c_7]; decide) (by rw [c_7]; rfl) (by decide) ?_
    refine lv_aload_n hx hb dX6_tellCount_70 rfl (lv_at hl 0 rfl) ?_
    refine ct_callV (As := []) (rest := []) X hP hD hS hA (k_X6_lockedPairs l G cI cS cL q refusal isShot states length at_ good runs did now) cp_X6_lockedPairs aw_1149 ⟨Nat.le_of_ble_eq_true rfl, Nat.le_of_ble_eq_true rfl⟩ [0, 1] (cs := [mdC q refusal isShot states length at_ good runs did, rwC (q 1) cI 129 now]) rfl (by decide) (cs' := [mdC q refusal isShot states length at_ good runs did, rwC (q 1) cI 129 now]) rfl rfl 4 rfl rfl (q0 := 0) rfl rfl hl.1 rfl (Nat.le_of_ble_eq_true rfl) dX6_tellCount_71 ⟨Nat.zero_le _, Nat.zero_le _⟩ rfl (bs' := [mdC q refusal isShot states length at_ good runs did, rwC (q 1) cI 129 now, rwC (q 6) cI 8 group]) rfl (fun H locs hP hD hS => ?_)
    rw [← hQQ]; exact W.iret hx hb hr (ct_end (F := (f_X6_tellCount states now group w)) (u := ((f_X6_lockedPairs now), group)) (rf := (fun u => some (.int u.1))) (wf := (fun u => [mdC q refusal isShot states length at_ good runs did, rwC (q 1) cI 129 now, rwC (q 6) cI 8 u.2].flatten)) (by first | (unfold f_X6_tellCount; rw [if_neg c_1, if_neg c_3, if_neg c_5, if_pos c_7]; first | done | rfl) | (unfold f_X6_tellCount; simp only [if_neg c_1, if_neg c_3, if_neg c_5, if_pos c_7])) rfl hP hD hS) hS.2.2 dX6_tellCount_74
  rcases Classical.em (w = 4) with c_9 | c_9
  · refine lv_tableIn (off := 74) (tgt := 75) hx hb dX6_tellCount_1 (by rw [c_9]; decide) (by rw [c_9]; decide) (by rw [c_9]; rfl) (by decide) ?_
    refine lv_aload_n hx hb dX6_tellCount_75 rfl (lv_at hl 0 rfl) ?_
    refine lv_aload_n hx hb dX6_tellCount_76 rfl (lv_at hl 0 rfl) ?_
    refine va_get (D := G) (ci := 4) (C := RX6) (T := TX6) (N := 15) hx hb hw in_X6 hown hK hP 0 rfl rfl 1 (by decide) (hw _ aw_872) (fun _ h9 => h9) rfl dX6_tellCount_77 ?_
    refine ct_callV (As := [.ref (q 1)]) (rest := []) X hP hD hS hA (k_X6_groups l G cI cS cL q (q 1) refusal isShot states length at_ good runs did group now) cp_X6_groups aw_1153 ⟨Nat.le_of_ble_eq_true rfl, Nat.le_of_ble_eq_true rfl⟩ [0, 2, 1] (cs := [mdC q refusal isShot states length at_ good runs did, rwC (q 6) cI 8 group, rwC (q 1) cI 129 now]) rfl (by decide) (cs' := [mdC q refusal isShot states length at_ good runs did, rwC (q 6) cI 8 ((f_X6_groups group now).2), rwC (q 1) cI 129 now]) rfl rfl 4 rfl rfl (q0 := 0) rfl rfl hl.1 rfl (Nat.le_of_ble_eq_true rfl) dX6_tellCount_80 ⟨Nat.zero_le _, Nat.zero_le _⟩ rfl (bs' := [mdC q refusal isShot states length at_ good runs did, rwC (q 1) cI 129 now, rwC (q 6) cI 8 ((f_X6_groups group now).2)]) rfl (fun H locs hP hD hS => ?_)
    rw [← hQQ]; exact W.iret hx hb hr (ct_end (F := (f_X6_tellCount states now group w)) (u := (f_X6_groups group now)) (rf := (fun u => some (.int u.1))) (wf := (fun u => [mdC q refusal isShot states length at_ good runs did, rwC (q 1) cI 129 now, rwC (q 6) cI 8 u.2].flatten)) (by first | (unfold f_X6_tellCount; rw [if_neg c_1, if_neg c_3, if_neg c_5, if_neg c_7, if_pos c_9]; first | done | rfl) | (unfold f_X6_tellCount; simp only [if_neg c_1, if_neg c_3, if_neg c_5, if_neg c_7, if_pos c_9])) rfl hP hD hS) hS.2.2 dX6_tellCount_83
  rcases Classical.em (w = 5) with c_11 | c_11
  · refine lv_tableIn (off := 83) (tgt := 84) hx hb dX6_tellCount_1 (by rw [c_11]; decide) (by rw [c_11]; decide) (by rw [c_11]; rfl) (by decide) ?_
    refine lv_aload_n hx hb dX6_tellCount_84 rfl (lv_at hl 0 rfl) ?_
    refine va_get (D := G) (ci := 4) (C := RX6) (T := TX6) (N := 15) hx hb hw in_X6 hown hK hP 0 rfl rfl 1 (by decide) (hw _ aw_872) (fun _ h9 => h9) rfl dX6_tellCount_85 ?_
    refine ct_callS (As := [.ref (q 1)]) (rest := []) X hP hD hS hA (k_X6_walked l G cI cS cL (q 1) now) cq_X6_walked aw_1157 ⟨Nat.le_of_ble_eq_true rfl, Nat.le_of_ble_eq_true rfl⟩ [1] (cs := [rwC (q 1) cI 129 now]) rfl (by decide) (cs' := [rwC (q 1) cI 129 now]) rfl rfl rfl hl.1 rfl (Nat.le_of_ble_eq_true rfl) dX6_tellCount_88 ⟨Nat.zero_le _, Nat.zero_le _⟩ rfl (bs' := [mdC q refusal isShot states length at_ good runs did, rwC (q 1) cI 129 now, rwC (q 6) cI 8 group]) rfl (fun H locs hP hD hS => ?_)
    rw [← hQQ]; exact W.iret hx hb hr (ct_end (F := (f_X6_tellCount states now group w)) (u := ((f_X6_walked now), group)) (rf := (fun u => some (.int u.1))) (wf := (fun u => [mdC q refusal isShot states length at_ good runs did, rwC (q 1) cI 129 now, rwC (q 6) cI 8 u.2].flatten)) (by first | (unfold f_X6_tellCount; rw [if_neg c_1, if_neg c_3, if_neg c_5, if_neg c_7, if_neg c_9, if_pos c_11]; first | done | rfl) | (unfold f_X6_tellCount; simp only [if_neg c_1, if_neg c_3, if_neg c_5, if_neg c_7, if_neg c_9, if_pos c_11])) rfl hP hD hS) hS.2.2 dX6_tellCount_91
  rcases Classical.em (w = 6) with c_13 | c_13
  · refine lv_tableIn (off := 91) (tgt := 92) hx hb dX6_tellCount_1 (by rw [c_13]; decide) (by rw [c_13]; decide) (by rw [c_13]; rfl) (by decide) ?_
    refine lv_aload_n hx hb dX6_tellCount_92 rfl (lv_at hl 0 rfl) ?_
    refine lv_aload_n hx hb dX6_tellCount_93 rfl (lv_at hl 0 rfl) ?_
    refine va_get (D := G) (ci := 4) (C := RX6) (T := TX6) (N := 15) hx hb hw in_X6 hown hK hP 0 rfl rfl 1 (by decide) (hw _ aw_872) (fun _ h9 => h9) rfl dX6_tellCount_94 ?_
    refine ct_callV (As := [.ref (q 1)]) (rest := []) X hP hD hS hA (k_X6_greatest l G cI cS cL q (q 1) refusal isShot states length at_ good runs did group now) cp_X6_greatest aw_1160 ⟨Nat.le_of_ble_eq_true rfl, Nat.le_of_ble_eq_true rfl⟩ [0, 2, 1] (cs := [mdC q refusal isShot states length at_ good runs did, rwC (q 6) cI 8 group, rwC (q 1) cI 129 now]) rfl (by decide) (cs' := [mdC q refusal isShot states length at_ good runs did, rwC (q 6) cI 8 ((f_X6_greatest group now).2), rwC (q 1) cI 129 now]) rfl rfl 4 rfl rfl (q0 := 0) rfl rfl hl.1 rfl (Nat.le_of_ble_eq_true rfl) dX6_tellCount_97 ⟨Nat.zero_le _, Nat.zero_le _⟩ rfl (bs' := [mdC q refusal isShot states length at_ good runs did, rwC (q 1) cI 129 now, rwC (q 6) cI 8 ((f_X6_greatest group now).2)]) rfl (fun H locs hP hD hS => ?_)
    rw [← hQQ]; exact W.iret hx hb hr (ct_end (F := (f_X6_tellCount states now group w)) (u := (f_X6_greatest group now)) (rf := (fun u => some (.int u.1))) (wf := (fun u => [mdC q refusal isShot states length at_ good runs did, rwC (q 1) cI 129 now, rwC (q 6) cI 8 u.2].flatten)) (by first | (unfold f_X6_tellCount; rw [if_neg c_1, if_neg c_3, if_neg c_5, if_neg c_7, if_neg c_9, if_neg c_11, if_pos c_13]; first | done | rfl) | (unfold f_X6_tellCount; simp only [if_neg c_1, if_neg c_3, if_neg c_5, if_neg c_7, if_neg c_9, if_neg c_11, if_pos c_13])) rfl hP hD hS) hS.2.2 dX6_tellCount_100
  rcases Classical.em (w = 7) with c_15 | c_15
  · refine lv_tableIn (off := 100) (tgt := 101) hx hb dX6_tellCount_1 (by rw [c_15]; decide) (by rw [c_15]; decide) (by rw [c_15]; rfl) (by decide) ?_
    refine lv_aload_n hx hb dX6_tellCount_101 rfl (lv_at hl 0 rfl) ?_
    refine va_get (D := G) (ci := 4) (C := RX6) (T := TX6) (N := 15) hx hb hw in_X6 hown hK hP 0 rfl rfl 1 (by decide) (hw _ aw_872) (fun _ h9 => h9) rfl dX6_tellCount_102 ?_
    refine lv_bipush (v := 127) hx hb dX6_tellCount_105 (by decide) ?_
    refine nv_iald hx hb hK hP 1 0 rfl rfl 127 (by omega) (by decide) dX6_tellCount_107 ?_
    rw [← hQQ]; exact W.iret hx hb hr (ct_end (F := (f_X6_tellCount states now group w)) (u := ((now 127), group)) (rf := (fun u => some (.int u.1))) (wf := (fun u => [mdC q refusal isShot states length at_ good runs did, rwC (q 1) cI 129 now, rwC (q 6) cI 8 u.2].flatten)) (by first | (unfold f_X6_tellCount; rw [if_neg c_1, if_neg c_3, if_neg c_5, if_neg c_7, if_neg c_9, if_neg c_11, if_neg c_13, if_pos c_15]; first | done | rfl) | (unfold f_X6_tellCount; simp only [if_neg c_1, if_neg c_3, if_neg c_5, if_neg c_7, if_neg c_9, if_neg c_11, if_neg c_13, if_pos c_15])) rfl hP hD hS) hS.2.2 dX6_tellCount_108
  rcases Classical.em (w = 8) with c_17 | c_17
  · refine lv_tableIn (off := 108) (tgt := 109) hx hb dX6_tellCount_1 (by rw [c_17]; decide) (by rw [c_17]; decide) (by rw [c_17]; rfl) (by decide) ?_
    refine lv_aload_n hx hb dX6_tellCount_109 rfl (lv_at hl 0 rfl) ?_
    refine va_get (D := G) (ci := 4) (C := RX6) (T := TX6) (N := 15) hx hb hw in_X6 hown hK hP 0 rfl rfl 1 (by decide) (hw _ aw_872) (fun _ h9 => h9) rfl dX6_tellCount_110 ?_
    refine lv_sipush (v := 128) hx hb dX6_tellCount_113 (by decide) ?_
    refine nv_iald hx hb hK hP 1 0 rfl rfl 128 (by omega) (by decide) dX6_tellCount_116 ?_
    rw [← hQQ]; exact W.iret hx hb hr (ct_end (F := (f_X6_tellCount states now group w)) (u := ((now 128), group)) (rf := (fun u => some (.int u.1))) (wf := (fun u => [mdC q refusal isShot states length at_ good runs did, rwC (q 1) cI 129 now, rwC (q 6) cI 8 u.2].flatten)) (by first | (unfold f_X6_tellCount; rw [if_neg c_1, if_neg c_3, if_neg c_5, if_neg c_7, if_neg c_9, if_neg c_11, if_neg c_13, if_neg c_15, if_pos c_17]; first | done | rfl) | (unfold f_X6_tellCount; simp only [if_neg c_1, if_neg c_3, if_neg c_5, if_neg c_7, if_neg c_9, if_neg c_11, if_neg c_13, if_neg c_15, if_pos c_17])) rfl hP hD hS) hS.2.2 dX6_tellCount_117
  refine lv_tableOut (tgt := 118) hx hb dX6_tellCount_1 (sw_out (lo := 0) (hi := 8) (fun j h1 h2 => by
      have h3 : j = 0 ∨ j = 1 ∨ j = 2 ∨ j = 3 ∨ j = 4 ∨ j = 5 ∨ j = 6 ∨ j = 7 ∨ j = 8 := by omega
      rcases h3 with rfl | rfl | rfl | rfl | rfl | rfl | rfl | rfl | rfl
      · exact c_1
      · exact c_3
      · exact c_5
      · exact c_7
      · exact c_9
      · exact c_11
      · exact c_13
      · exact c_15
      · exact c_17)) (by decide) ?_
  refine lv_aload_n hx hb dX6_tellCount_118 rfl (lv_at hl 0 rfl) ?_
  refine va_get (D := G) (ci := 4) (C := RX6) (T := TX6) (N := 15) hx hb hw in_X6 hown hK hP 0 rfl rfl 6 (by decide) (hw _ aw_877) (fun _ h9 => h9) rfl dX6_tellCount_119 ?_
  rw [← hQQ]; exact W.iret hx hb hr (ct_end (F := (f_X6_tellCount states now group w)) (u := ((nI states), group)) (rf := (fun u => some (.int u.1))) (wf := (fun u => [mdC q refusal isShot states length at_ good runs did, rwC (q 1) cI 129 now, rwC (q 6) cI 8 u.2].flatten)) (by first | (unfold f_X6_tellCount; rw [if_neg c_1, if_neg c_3, if_neg c_5, if_neg c_7, if_neg c_9, if_neg c_11, if_neg c_13, if_neg c_15, if_neg c_17]; first | done | rfl) | (unfold f_X6_tellCount; simp only [if_neg c_1, if_neg c_3, if_neg c_5, if_neg c_7, if_neg c_9, if_neg c_11, if_neg c_13, if_neg c_15, if_neg c_17])) rfl hP hD hS) hS.2.2 dX6_tellCount_122
set_option maxRecDepth 100000 in
set_option maxHeartbeats 4000000 in
theorem k_X6_count (l : Launch) (G : va_G) (cI cS cL : ClassId) (q : Nat → Nat) (refusal : Int32) (isShot : Bool) (states : Nat) (length : Nat) (at_ : Nat) (good : Bool) (runs : Bool) (did : Int32) (now : Nat → Int32) (group : Nat → Int32) (w : Int32) (hrf : ¬ (((f_X6_refused (bI (if (f_X6_in w.toInt64 (0 : Int64) (9 : Int64)) = true then false else true))).1) = true)) : Ct l G (tyl cI cS cL) yX6_count cX6_count 2 (some (Jvm.ClassFile.FieldType.int)) 6 140 0 0 [.ref (q 0), .int w] [mdC q refusal isShot states length at_ good runs did, rwC (q 1) cI 129 now, rwC (q 6) cI 8 group].flatten (f_X6_count states now group w) (fun u => some (.int u.1)) (fun u => [mdC q u.2.1 isShot states length at_ good runs did, rwC (q 1) cI 129 now, rwC (q 6) cI 8 u.2.2].flatten) := by
  refine Ct.of (by decide +kernel) (Nat.le_of_ble_eq_true rfl) ?_
  intro p e s m args below meth c A ls hx hb hr hml hw hown hlocks hin hK hN hP hD hS hA hl
  have hown : s.vm.findClass RX6 = some m.cls := hown
  have X : Cx p s m args c cX6_count 2 RX6 G (tyl cI cS cL) := ⟨hx, hb, hml, hown, hw, hK, hN⟩
  have hP : va_P G classes [mdC q refusal isShot states length at_ good runs did, rwC (q 1) cI 129 now, rwC (q 6) cI 8 group].flatten s.heap := hP
  have hl : lv_has ls 2 [(0, .ref (q 0)), (1, .int w)] := hl
  generalize hQQ : MQ below _ args s 0 0 A = QQ
  refine lv_aload_n hx hb dX6_count_0 rfl (lv_at hl 0 rfl) ?_
  refine lv_iload_n hx hb dX6_count_1 rfl (lv_at hl 1 rfl) ?_
  refine lv_i2l hx hb dX6_count_2 rfl ?_
  refine lv_lconst (v := 0) hx hb dX6_count_3 (by decide) ?_
  refine lv_ldc2 hx hb hown (hw _ aw_1136) dX6_count_4 ?_
  refine ct_callS (As := [.long w.toInt64, .long (0 : Int64), .long (9 : Int64)]) (rest := [.ref (q 0)]) X hP hD hS hA (k_X6_in l G cI cS cL  w.toInt64 (0 : Int64) (9 : Int64)) cq_X6_in aw_926 ⟨Nat.le_of_ble_eq_true rfl, Nat.le_of_ble_eq_true rfl⟩ ([] : List Nat) (cs := []) rfl (by decide) (cs' := []) rfl rfl rfl hl.1 rfl (Nat.le_of_ble_eq_true rfl) dX6_count_7 ⟨Nat.zero_le _, Nat.zero_le _⟩ rfl (bs' := [mdC q refusal isShot states length at_ good runs did, rwC (q 1) cI 129 now, rwC (q 6) cI 8 group]) rfl (fun H locs hP hD hS => ?_)
  have hM_5 : ∀ (v_4 : Bool) (ls : Array Slot) (H : Heap) (locs : List Loc), v_4 = (if (f_X6_in w.toInt64 (0 : Int64) (9 : Int64)) = true then false else true) → lv_has ls 2 [(0, .ref (q 0)), (1, .int w)] → va_P G classes [mdC q refusal isShot states length at_ good runs did, rwC (q 1) cI 129 now, rwC (q 6) cI 8 group].flatten H → va_D A [mdC q refusal isShot states length at_ good runs did, rwC (q 1) cI 129 now, rwC (q 6) cI 8 group].flatten → va_S A s.heap H locs → W p l e ({ frames := 6, cells := 0, slots := 0, locals := 140 } : Room) s m args below meth c H locs 0 0 QQ (F0 m 18 ls [.int (bI v_4), .ref (q 0)]) := by
    intro v_4 ls H locs e_v_4 hl hP hD hS
    subst e_v_4
    refine ct_callV (As := [.int (bI (if (f_X6_in w.toInt64 (0 : Int64) (9 : Int64)) = true then false else true))]) (rest := []) X hP hD hS hA (k_X6_refused l G cI cS cL q refusal isShot states length at_ good runs did (bI (if (f_X6_in w.toInt64 (0 : Int64) (9 : Int64)) = true then false else true))) cp_X6_refused aw_929 ⟨Nat.le_of_ble_eq_true rfl, Nat.le_of_ble_eq_true rfl⟩ [0] (cs := [mdC q refusal isShot states length at_ good runs did]) rfl (by decide) (cs' := [mdC q ((f_X6_refused (bI (if (f_X6_in w.toInt64 (0 : Int64) (9 : Int64)) = true then false else true))).2) isShot states length at_ good runs did]) rfl rfl 4 rfl rfl (q0 := 0) rfl rfl hl.1 rfl (Nat.le_of_ble_eq_true rfl) dX6_count_18 ⟨Nat.zero_le _, Nat.zero_le _⟩ rfl (bs' := [mdC q ((f_X6_refused (bI (if (f_X6_in w.toInt64 (0 : Int64) (9 : Int64)) = true then false else true))).2) isShot states length at_ good runs did, rwC (q 1) cI 129 now, rwC (q 6) cI 8 group]) rfl (fun H locs hP hD hS => ?_)
    refine bv_ifeq hx hb ((f_X6_refused (bI (if (f_X6_in w.toInt64 (0 : Int64) (9 : Int64)) = true then false else true))).1) 26 dX6_count_21 (by decide) (fun c_6 => ?_) (fun c => absurd c hrf)
    refine lv_aload_n hx hb dX6_count_26 rfl (lv_at hl 0 rfl) ?_
    refine lv_iload_n hx hb dX6_count_27 rfl (lv_at hl 1 rfl) ?_
    refine ct_callV (As := [.int w]) (rest := []) X hP hD hS hA (k_X6_tellCount l G cI cS cL q ((f_X6_refused (bI (if (f_X6_in w.toInt64 (0 : Int64) (9 : Int64)) = true then false else true))).2) isShot states length at_ good runs did now group w) cp_X6_tellCount aw_1137 ⟨Nat.le_of_ble_eq_true rfl, Nat.le_of_ble_eq_true rfl⟩ [0, 1, 2] (cs := [mdC q ((f_X6_refused (bI (if (f_X6_in w.toInt64 (0 : Int64) (9 : Int64)) = true then false else true))).2) isShot states length at_ good runs did, rwC (q 1) cI 129 now, rwC (q 6) cI 8 group]) rfl (by decide) (cs' := [mdC q ((f_X6_refused (bI (if (f_X6_in w.toInt64 (0 : Int64) (9 : Int64)) = true then false else true))).2) isShot states length at_ good runs did, rwC (q 1) cI 129 now, rwC (q 6) cI 8 ((f_X6_tellCount states now group w).2)]) rfl rfl 4 rfl rfl (q0 := 0) rfl rfl hl.1 rfl (Nat.le_of_ble_eq_true rfl) dX6_count_28 ⟨Nat.zero_le _, Nat.zero_le _⟩ rfl (bs' := [mdC q ((f_X6_refused (bI (if (f_X6_in w.toInt64 (0 : Int64) (9 : Int64)) = true then false else true))).2) isShot states length at_ good runs did, rwC (q 1) cI 129 now, rwC (q 6) cI 8 ((f_X6_tellCount states now group w).2)]) rfl (fun H locs hP hD hS => ?_)
    rw [← hQQ]; exact W.iret hx hb hr (ct_end (F := (f_X6_count states now group w)) (u := ((f_X6_tellCount states now group w).1, (f_X6_refused (bI (if (f_X6_in w.toInt64 (0 : Int64) (9 : Int64)) = true then false else true))).2, (f_X6_tellCount states now group w).2)) (rf := (fun u => some (.int u.1))) (wf := (fun u => [mdC q u.2.1 isShot states length at_ good runs did, rwC (q 1) cI 129 now, rwC (q 6) cI 8 u.2.2].flatten)) rfl rfl hP hD hS) hS.2.2 dX6_count_31
  refine bv_ifeq hx hb (f_X6_in w.toInt64 (0 : Int64) (9 : Int64)) 17 dX6_count_10 (by decide) (fun c_1 => ?_) (fun c_1 => ?_)
  · refine lv_iconst (v := 1) hx hb dX6_count_17 (by decide) ?_
    exact hM_5 true _ _ _ (if_neg c_1).symm (lv_sub hl [0, 1] rfl) hP hD hS
  · refine lv_iconst (v := 0) hx hb dX6_count_13 (by decide) ?_
    refine lv_goto (tgt := 18) hx hb dX6_count_14 (by decide) ?_
    exact hM_5 false _ _ _ (if_pos c_1).symm (lv_sub hl [0, 1] rfl) hP hD hS
set_option maxRecDepth 100000 in
set_option maxHeartbeats 4000000 in
theorem k_X6_count_R (l : Launch) (G : va_G) (cI cS cL : ClassId) (q : Nat → Nat) (refusal : Int32) (isShot : Bool) (states : Nat) (length : Nat) (at_ : Nat) (good : Bool) (runs : Bool) (did : Int32) (now : Nat → Int32) (group : Nat → Int32) (w : Int32) (hrf : ((f_X6_refused (bI (if (f_X6_in w.toInt64 (0 : Int64) (9 : Int64)) = true then false else true))).1) = true) : Ct l G (tyl cI cS cL) yX6_count cX6_count 2 (some (Jvm.ClassFile.FieldType.int)) 1 25 0 0 [.ref (q 0), .int w] [mdC q refusal isShot states length at_ good runs did, rwC (q 1) cI 129 now, rwC (q 6) cI 8 group].flatten (f_X6_count_R w) (fun u => some (.int u.1)) (fun u => [mdC q u.2 isShot states length at_ good runs did, rwC (q 1) cI 129 now, rwC (q 6) cI 8 group].flatten) := by
  refine Ct.of (by decide +kernel) (Nat.le_of_ble_eq_true rfl) ?_
  intro p e s m args below meth c A ls hx hb hr hml hw hown hlocks hin hK hN hP hD hS hA hl
  have hown : s.vm.findClass RX6 = some m.cls := hown
  have X : Cx p s m args c cX6_count 2 RX6 G (tyl cI cS cL) := ⟨hx, hb, hml, hown, hw, hK, hN⟩
  have hP : va_P G classes [mdC q refusal isShot states length at_ good runs did, rwC (q 1) cI 129 now, rwC (q 6) cI 8 group].flatten s.heap := hP
  have hl : lv_has ls 2 [(0, .ref (q 0)), (1, .int w)] := hl
  generalize hQQ : MQ below _ args s 0 0 A = QQ
  refine lv_aload_n hx hb dX6_count_0 rfl (lv_at hl 0 rfl) ?_
  refine lv_iload_n hx hb dX6_count_1 rfl (lv_at hl 1 rfl) ?_
  refine lv_i2l hx hb dX6_count_2 rfl ?_
  refine lv_lconst (v := 0) hx hb dX6_count_3 (by decide) ?_
  refine lv_ldc2 hx hb hown (hw _ aw_1136) dX6_count_4 ?_
  refine ct_callS (As := [.long w.toInt64, .long (0 : Int64), .long (9 : Int64)]) (rest := [.ref (q 0)]) X hP hD hS hA (k_X6_in l G cI cS cL  w.toInt64 (0 : Int64) (9 : Int64)) cq_X6_in aw_926 ⟨Nat.le_of_ble_eq_true rfl, Nat.le_of_ble_eq_true rfl⟩ ([] : List Nat) (cs := []) rfl (by decide) (cs' := []) rfl rfl rfl hl.1 rfl (Nat.le_of_ble_eq_true rfl) dX6_count_7 ⟨Nat.zero_le _, Nat.zero_le _⟩ rfl (bs' := [mdC q refusal isShot states length at_ good runs did, rwC (q 1) cI 129 now, rwC (q 6) cI 8 group]) rfl (fun H locs hP hD hS => ?_)
  have hM_5 : ∀ (v_4 : Bool) (ls : Array Slot) (H : Heap) (locs : List Loc), v_4 = (if (f_X6_in w.toInt64 (0 : Int64) (9 : Int64)) = true then false else true) → lv_has ls 2 [(0, .ref (q 0)), (1, .int w)] → va_P G classes [mdC q refusal isShot states length at_ good runs did, rwC (q 1) cI 129 now, rwC (q 6) cI 8 group].flatten H → va_D A [mdC q refusal isShot states length at_ good runs did, rwC (q 1) cI 129 now, rwC (q 6) cI 8 group].flatten → va_S A s.heap H locs → W p l e ({ frames := 1, cells := 0, slots := 0, locals := 25 } : Room) s m args below meth c H locs 0 0 QQ (F0 m 18 ls [.int (bI v_4), .ref (q 0)]) := by
    intro v_4 ls H locs e_v_4 hl hP hD hS
    subst e_v_4
    refine ct_callV (As := [.int (bI (if (f_X6_in w.toInt64 (0 : Int64) (9 : Int64)) = true then false else true))]) (rest := []) X hP hD hS hA (k_X6_refused l G cI cS cL q refusal isShot states length at_ good runs did (bI (if (f_X6_in w.toInt64 (0 : Int64) (9 : Int64)) = true then false else true))) cp_X6_refused aw_929 ⟨Nat.le_of_ble_eq_true rfl, Nat.le_of_ble_eq_true rfl⟩ [0] (cs := [mdC q refusal isShot states length at_ good runs did]) rfl (by decide) (cs' := [mdC q ((f_X6_refused (bI (if (f_X6_in w.toInt64 (0 : Int64) (9 : Int64)) = true then false else true))).2) isShot states length at_ good runs did]) rfl rfl 4 rfl rfl (q0 := 0) rfl rfl hl.1 rfl (Nat.le_of_ble_eq_true rfl) dX6_count_18 ⟨Nat.zero_le _, Nat.zero_le _⟩ rfl (bs' := [mdC q ((f_X6_refused (bI (if (f_X6_in w.toInt64 (0 : Int64) (9 : Int64)) = true then false else true))).2) isShot states length at_ good runs did, rwC (q 1) cI 129 now, rwC (q 6) cI 8 group]) rfl (fun H locs hP hD hS => ?_)
    refine bv_ifeq hx hb ((f_X6_refused (bI (if (f_X6_in w.toInt64 (0 : Int64) (9 : Int64)) = true then false else true))).1) 26 dX6_count_21 (by decide) (fun c => absurd hrf c) (fun c_6 => ?_)
    refine lv_iconst (v := 0) hx hb dX6_count_24 (by decide) ?_
    rw [← hQQ]; exact W.iret hx hb hr (ct_end (F := (f_X6_count_R w)) (u := ((0 : Int32), (f_X6_refused (bI (if (f_X6_in w.toInt64 (0 : Int64) (9 : Int64)) = true then false else true))).2)) (rf := (fun u => some (.int u.1))) (wf := (fun u => [mdC q u.2 isShot states length at_ good runs did, rwC (q 1) cI 129 now, rwC (q 6) cI 8 group].flatten)) rfl rfl hP hD hS) hS.2.2 dX6_count_25
  refine bv_ifeq hx hb (f_X6_in w.toInt64 (0 : Int64) (9 : Int64)) 17 dX6_count_10 (by decide) (fun c_1 => ?_) (fun c_1 => ?_)
  · refine lv_iconst (v := 1) hx hb dX6_count_17 (by decide) ?_
    exact hM_5 true _ _ _ (if_neg c_1).symm (lv_sub hl [0, 1] rfl) hP hD hS
  · refine lv_iconst (v := 0) hx hb dX6_count_13 (by decide) ?_
    refine lv_goto (tgt := 18) hx hb dX6_count_14 (by decide) ?_
    exact hM_5 false _ _ _ (if_pos c_1).symm (lv_sub hl [0, 1] rfl) hP hD hS
set_option maxRecDepth 100000 in
set_option maxHeartbeats 4000000 in
theorem k_X6_setting (l : Launch) (G : va_G) (cI cS cL : ClassId) (q : Nat → Nat) (refusal : Int32) (isShot : Bool) (states : Nat) (length : Nat) (at_ : Nat) (good : Bool) (runs : Bool) (did : Int32) (now : Nat → Int32) (k : Nat) (hk : k < 3) (hrf : ¬ (((f_X6_refused (bI (if (f_X6_in ((nI k).toInt64) (0 : Int64) (2 : Int64)) = true then false else true))).1) = true)) : Ct l G (tyl cI cS cL) yX6_setting cX6_setting 2 (some (Jvm.ClassFile.FieldType.int)) 1 25 0 0 [.ref (q 0), .int (nI k)] [mdC q refusal isShot states length at_ good runs did, rwC (q 1) cI 129 now].flatten (f_X6_setting now k) (fun u => some (.int u.1)) (fun u => [mdC q u.2 isShot states length at_ good runs did, rwC (q 1) cI 129 now].flatten) := by
  refine Ct.of (by decide +kernel) (Nat.le_of_ble_eq_true rfl) ?_
  intro p e s m args below meth c A ls hx hb hr hml hw hown hlocks hin hK hN hP hD hS hA hl
  have hown : s.vm.findClass RX6 = some m.cls := hown
  have X : Cx p s m args c cX6_setting 2 RX6 G (tyl cI cS cL) := ⟨hx, hb, hml, hown, hw, hK, hN⟩
  have hP : va_P G classes [mdC q refusal isShot states length at_ good runs did, rwC (q 1) cI 129 now].flatten s.heap := hP
  have hl : lv_has ls 2 [(0, .ref (q 0)), (1, .int (nI k))] := hl
  generalize hQQ : MQ below _ args s 0 0 A = QQ
  refine lv_aload_n hx hb dX6_setting_0 rfl (lv_at hl 0 rfl) ?_
  refine lv_iload_n hx hb dX6_setting_1 rfl (lv_at hl 1 rfl) ?_
  refine lv_i2l hx hb dX6_setting_2 rfl ?_
  refine lv_lconst (v := 0) hx hb dX6_setting_3 (by decide) ?_
  refine lv_ldc2 hx hb hown (hw _ aw_990) dX6_setting_4 ?_
  refine ct_callS (As := [.long ((nI k).toInt64), .long (0 : Int64), .long (2 : Int64)]) (rest := [.ref (q 0)]) X hP hD hS hA (k_X6_in l G cI cS cL  ((nI k).toInt64) (0 : Int64) (2 : Int64)) cq_X6_in aw_926 ⟨Nat.le_of_ble_eq_true rfl, Nat.le_of_ble_eq_true rfl⟩ ([] : List Nat) (cs := []) rfl (by decide) (cs' := []) rfl rfl rfl hl.1 rfl (Nat.le_of_ble_eq_true rfl) dX6_setting_7 ⟨Nat.zero_le _, Nat.zero_le _⟩ rfl (bs' := [mdC q refusal isShot states length at_ good runs did, rwC (q 1) cI 129 now]) rfl (fun H locs hP hD hS => ?_)
  have hM_5 : ∀ (v_4 : Bool) (ls : Array Slot) (H : Heap) (locs : List Loc), v_4 = (if (f_X6_in ((nI k).toInt64) (0 : Int64) (2 : Int64)) = true then false else true) → lv_has ls 2 [(0, .ref (q 0)), (1, .int (nI k))] → va_P G classes [mdC q refusal isShot states length at_ good runs did, rwC (q 1) cI 129 now].flatten H → va_D A [mdC q refusal isShot states length at_ good runs did, rwC (q 1) cI 129 now].flatten → va_S A s.heap H locs → W p l e ({ frames := 1, cells := 0, slots := 0, locals := 25 } : Room) s m args below meth c H locs 0 0 QQ (F0 m 18 ls [.int (bI v_4), .ref (q 0)]) := by
    intro v_4 ls H locs e_v_4 hl hP hD hS
    subst e_v_4
    refine ct_callV (As := [.int (bI (if (f_X6_in ((nI k).toInt64) (0 : Int64) (2 : Int64)) = true then false else true))]) (rest := []) X hP hD hS hA (k_X6_refused l G cI cS cL q refusal isShot states length at_ good runs did (bI (if (f_X6_in ((nI k).toInt64) (0 : Int64) (2 : Int64)) = true then false else true))) cp_X6_refused aw_929 ⟨Nat.le_of_ble_eq_true rfl, Nat.le_of_ble_eq_true rfl⟩ [0] (cs := [mdC q refusal isShot states length at_ good runs did]) rfl (by decide) (cs' := [mdC q ((f_X6_refused (bI (if (f_X6_in ((nI k).toInt64) (0 : Int64) (2 : Int64)) = true then false else true))).2) isShot states length at_ good runs did]) rfl rfl 4 rfl rfl (q0 := 0) rfl rfl hl.1 rfl (Nat.le_of_ble_eq_true rfl) dX6_setting_18 ⟨Nat.zero_le _, Nat.zero_le _⟩ rfl (bs' := [mdC q ((f_X6_refused (bI (if (f_X6_in ((nI k).toInt64) (0 : Int64) (2 : Int64)) = true then false else true))).2) isShot states length at_ good runs did, rwC (q 1) cI 129 now]) rfl (fun H locs hP hD hS => ?_)
    refine bv_ifeq hx hb ((f_X6_refused (bI (if (f_X6_in ((nI k).toInt64) (0 : Int64) (2 : Int64)) = true then false else true))).1) 26 dX6_setting_21 (by decide) (fun c_6 => ?_) (fun c => absurd c hrf)
    refine lv_aload_n hx hb dX6_setting_26 rfl (lv_at hl 0 rfl) ?_
    refine va_get (D := G) (ci := 4) (C := RX6) (T := TX6) (N := 15) hx hb hw in_X6 hown hK hP 0 rfl rfl 1 (by decide) (hw _ aw_872) (fun _ h9 => h9) rfl dX6_setting_27 ?_
    refine lv_iconst (v := 3) hx hb dX6_setting_30 (by decide) ?_
    refine lv_iload_n hx hb dX6_setting_31 rfl (lv_at hl 1 rfl) ?_
    refine nv_iadd hx hb 3 k dX6_setting_32 ?_
    refine nv_iald hx hb hK hP 1 0 rfl rfl (3 + k) (by omega) (by decide) dX6_setting_33 ?_
    rw [← hQQ]; exact W.iret hx hb hr (ct_end (F := (f_X6_setting now k)) (u := ((now (3 + k)), (f_X6_refused (bI (if (f_X6_in ((nI k).toInt64) (0 : Int64) (2 : Int64)) = true then false else true))).2)) (rf := (fun u => some (.int u.1))) (wf := (fun u => [mdC q u.2 isShot states length at_ good runs did, rwC (q 1) cI 129 now].flatten)) rfl rfl hP hD hS) hS.2.2 dX6_setting_34
  refine bv_ifeq hx hb (f_X6_in ((nI k).toInt64) (0 : Int64) (2 : Int64)) 17 dX6_setting_10 (by decide) (fun c_1 => ?_) (fun c_1 => ?_)
  · refine lv_iconst (v := 1) hx hb dX6_setting_17 (by decide) ?_
    exact hM_5 true _ _ _ (if_neg c_1).symm (lv_sub hl [0, 1] rfl) hP hD hS
  · refine lv_iconst (v := 0) hx hb dX6_setting_13 (by decide) ?_
    refine lv_goto (tgt := 18) hx hb dX6_setting_14 (by decide) ?_
    exact hM_5 false _ _ _ (if_pos c_1).symm (lv_sub hl [0, 1] rfl) hP hD hS
set_option maxRecDepth 100000 in
set_option maxHeartbeats 4000000 in
theorem k_X6_setting_R (l : Launch) (G : va_G) (cI cS cL : ClassId) (q : Nat → Nat) (refusal : Int32) (isShot : Bool) (states : Nat) (length : Nat) (at_ : Nat) (good : Bool) (runs : Bool) (did : Int32) (now : Nat → Int32) (k : Int32) (hrf : ((f_X6_refused (bI (if (f_X6_in k.toInt64 (0 : Int64) (2 : Int64)) = true then false else true))).1) = true) : Ct l G (tyl cI cS cL) yX6_setting cX6_setting 2 (some (Jvm.ClassFile.FieldType.int)) 1 25 0 0 [.ref (q 0), .int k] [mdC q refusal isShot states length at_ good runs did, rwC (q 1) cI 129 now].flatten (f_X6_setting_R k) (fun u => some (.int u.1)) (fun u => [mdC q u.2 isShot states length at_ good runs did, rwC (q 1) cI 129 now].flatten) := by
  refine Ct.of (by decide +kernel) (Nat.le_of_ble_eq_true rfl) ?_
  intro p e s m args below meth c A ls hx hb hr hml hw hown hlocks hin hK hN hP hD hS hA hl
  have hown : s.vm.findClass RX6 = some m.cls := hown
  have X : Cx p s m args c cX6_setting 2 RX6 G (tyl cI cS cL) := ⟨hx, hb, hml, hown, hw, hK, hN⟩
  have hP : va_P G classes [mdC q refusal isShot states length at_ good runs did, rwC (q 1) cI 129 now].flatten s.heap := hP
  have hl : lv_has ls 2 [(0, .ref (q 0)), (1, .int k)] := hl
  generalize hQQ : MQ below _ args s 0 0 A = QQ
  refine lv_aload_n hx hb dX6_setting_0 rfl (lv_at hl 0 rfl) ?_
  refine lv_iload_n hx hb dX6_setting_1 rfl (lv_at hl 1 rfl) ?_
  refine lv_i2l hx hb dX6_setting_2 rfl ?_
  refine lv_lconst (v := 0) hx hb dX6_setting_3 (by decide) ?_
  refine lv_ldc2 hx hb hown (hw _ aw_990) dX6_setting_4 ?_
  refine ct_callS (As := [.long k.toInt64, .long (0 : Int64), .long (2 : Int64)]) (rest := [.ref (q 0)]) X hP hD hS hA (k_X6_in l G cI cS cL  k.toInt64 (0 : Int64) (2 : Int64)) cq_X6_in aw_926 ⟨Nat.le_of_ble_eq_true rfl, Nat.le_of_ble_eq_true rfl⟩ ([] : List Nat) (cs := []) rfl (by decide) (cs' := []) rfl rfl rfl hl.1 rfl (Nat.le_of_ble_eq_true rfl) dX6_setting_7 ⟨Nat.zero_le _, Nat.zero_le _⟩ rfl (bs' := [mdC q refusal isShot states length at_ good runs did, rwC (q 1) cI 129 now]) rfl (fun H locs hP hD hS => ?_)
  have hM_5 : ∀ (v_4 : Bool) (ls : Array Slot) (H : Heap) (locs : List Loc), v_4 = (if (f_X6_in k.toInt64 (0 : Int64) (2 : Int64)) = true then false else true) → lv_has ls 2 [(0, .ref (q 0)), (1, .int k)] → va_P G classes [mdC q refusal isShot states length at_ good runs did, rwC (q 1) cI 129 now].flatten H → va_D A [mdC q refusal isShot states length at_ good runs did, rwC (q 1) cI 129 now].flatten → va_S A s.heap H locs → W p l e ({ frames := 1, cells := 0, slots := 0, locals := 25 } : Room) s m args below meth c H locs 0 0 QQ (F0 m 18 ls [.int (bI v_4), .ref (q 0)]) := by
    intro v_4 ls H locs e_v_4 hl hP hD hS
    subst e_v_4
    refine ct_callV (As := [.int (bI (if (f_X6_in k.toInt64 (0 : Int64) (2 : Int64)) = true then false else true))]) (rest := []) X hP hD hS hA (k_X6_refused l G cI cS cL q refusal isShot states length at_ good runs did (bI (if (f_X6_in k.toInt64 (0 : Int64) (2 : Int64)) = true then false else true))) cp_X6_refused aw_929 ⟨Nat.le_of_ble_eq_true rfl, Nat.le_of_ble_eq_true rfl⟩ [0] (cs := [mdC q refusal isShot states length at_ good runs did]) rfl (by decide) (cs' := [mdC q ((f_X6_refused (bI (if (f_X6_in k.toInt64 (0 : Int64) (2 : Int64)) = true then false else true))).2) isShot states length at_ good runs did]) rfl rfl 4 rfl rfl (q0 := 0) rfl rfl hl.1 rfl (Nat.le_of_ble_eq_true rfl) dX6_setting_18 ⟨Nat.zero_le _, Nat.zero_le _⟩ rfl (bs' := [mdC q ((f_X6_refused (bI (if (f_X6_in k.toInt64 (0 : Int64) (2 : Int64)) = true then false else true))).2) isShot states length at_ good runs did, rwC (q 1) cI 129 now]) rfl (fun H locs hP hD hS => ?_)
    refine bv_ifeq hx hb ((f_X6_refused (bI (if (f_X6_in k.toInt64 (0 : Int64) (2 : Int64)) = true then false else true))).1) 26 dX6_setting_21 (by decide) (fun c => absurd hrf c) (fun c_6 => ?_)
    refine lv_iconst (v := 0) hx hb dX6_setting_24 (by decide) ?_
    rw [← hQQ]; exact W.iret hx hb hr (ct_end (F := (f_X6_setting_R k)) (u := ((0 : Int32), (f_X6_refused (bI (if (f_X6_in k.toInt64 (0 : Int64) (2 : Int64)) = true then false else true))).2)) (rf := (fun u => some (.int u.1))) (wf := (fun u => [mdC q u.2 isShot states length at_ good runs did, rwC (q 1) cI 129 now].flatten)) rfl rfl hP hD hS) hS.2.2 dX6_setting_25
  refine bv_ifeq hx hb (f_X6_in k.toInt64 (0 : Int64) (2 : Int64)) 17 dX6_setting_10 (by decide) (fun c_1 => ?_) (fun c_1 => ?_)
  · refine lv_iconst (v := 1) hx hb dX6_setting_17 (by decide) ?_
    exact hM_5 true _ _ _ (if_neg c_1).symm (lv_sub hl [0, 1] rfl) hP hD hS
  · refine lv_iconst (v := 0) hx hb dX6_setting_13 (by decide) ?_
    refine lv_goto (tgt := 18) hx hb dX6_setting_14 (by decide) ?_
    exact hM_5 false _ _ _ (if_pos c_1).symm (lv_sub hl [0, 1] rfl) hP hD hS
set_option maxRecDepth 100000 in
set_option maxHeartbeats 4000000 in
theorem k_X6_wouldBe (l : Launch) (G : va_G) (cI cS cL : ClassId) (q : Nat → Nat) (refusal : Int32) (isShot : Bool) (states : Nat) (length : Nat) (at_ : Nat) (good : Bool) (runs : Bool) (did : Int32) (now : Nat → Int32) (trial : Nat → Int32) (pulls : Nat → Int32) (group : Nat → Int32) (n : Int32) (k : Nat) (w : Int32) (hk : k < 8) (hI : InvB now) : Ct l G (tyl cI cS cL) yX6_wouldBe cX6_wouldBe 6 (some (Jvm.ClassFile.FieldType.int)) 5 116 0 0 [.ref (q 0), .int n, .int (nI k), .int w] [mdC q refusal isShot states length at_ good runs did, rwC (q 1) cI 129 now, rwC (q 2) cI 129 trial, rwC (q 5) cI 8 pulls, rwC (q 6) cI 8 group].flatten (f_X6_wouldBe now pulls group n k w) (fun u => some (.int u.1)) (fun u => [mdC q refusal isShot states length at_ good runs did, rwC (q 1) cI 129 now, rwC (q 2) cI 129 u.2.1, rwC (q 5) cI 8 u.2.2.1, rwC (q 6) cI 8 u.2.2.2].flatten) := by
  refine Ct.of (by decide +kernel) (Nat.le_of_ble_eq_true rfl) ?_
  intro p e s m args below meth c A ls hx hb hr hml hw hown hlocks hin hK hN hP hD hS hA hl
  have hown : s.vm.findClass RX6 = some m.cls := hown
  have X : Cx p s m args c cX6_wouldBe 6 RX6 G (tyl cI cS cL) := ⟨hx, hb, hml, hown, hw, hK, hN⟩
  have hP : va_P G classes [mdC q refusal isShot states length at_ good runs did, rwC (q 1) cI 129 now, rwC (q 2) cI 129 trial, rwC (q 5) cI 8 pulls, rwC (q 6) cI 8 group].flatten s.heap := hP
  have hl : lv_has ls 6 [(0, .ref (q 0)), (1, .int n), (2, .int (nI k)), (3, .int w)] := hl
  generalize hQQ : MQ below _ args s 0 0 A = QQ
  refine lv_aload_n hx hb dX6_wouldBe_0 rfl (lv_at hl 0 rfl) ?_
  refine va_get (D := G) (ci := 4) (C := RX6) (T := TX6) (N := 15) hx hb hw in_X6 hown hK hP 0 rfl rfl 1 (by decide) (hw _ aw_872) (fun _ h9 => h9) rfl dX6_wouldBe_1 ?_
  refine lv_aload_n hx hb dX6_wouldBe_4 rfl (lv_at hl 0 rfl) ?_
  refine va_get (D := G) (ci := 4) (C := RX6) (T := TX6) (N := 15) hx hb hw in_X6 hown hK hP 0 rfl rfl 2 (by decide) (hw _ aw_873) (fun _ h9 => h9) rfl dX6_wouldBe_5 ?_
  refine ct_callS (As := [.ref (q 1), .ref (q 2)]) (rest := []) X hP hD hS hA (k_X6_copy l G cI cS cL (q 1) (q 2) now trial) cq_X6_copy aw_1074 ⟨Nat.le_of_ble_eq_true rfl, Nat.le_of_ble_eq_true rfl⟩ [1, 2] (cs := [rwC (q 1) cI 129 now, rwC (q 2) cI 129 trial]) rfl (by decide) (cs' := [rwC (q 1) cI 129 now, rwC (q 2) cI 129 now]) rfl rfl rfl hl.1 rfl (Nat.le_of_ble_eq_true rfl) dX6_wouldBe_8 ⟨Nat.zero_le _, Nat.zero_le _⟩ rfl (bs' := [mdC q refusal isShot states length at_ good runs did, rwC (q 1) cI 129 now, rwC (q 2) cI 129 now, rwC (q 5) cI 8 pulls, rwC (q 6) cI 8 group]) rfl (fun H locs hP hD hS => ?_)
  refine lv_aload_n hx hb dX6_wouldBe_11 rfl (lv_at hl 0 rfl) ?_
  refine lv_aload_n hx hb dX6_wouldBe_12 rfl (lv_at hl 0 rfl) ?_
  refine va_get (D := G) (ci := 4) (C := RX6) (T := TX6) (N := 15) hx hb hw in_X6 hown hK hP 0 rfl rfl 2 (by decide) (hw _ aw_873) (fun _ h9 => h9) rfl dX6_wouldBe_13 ?_
  refine lv_iload_n hx hb dX6_wouldBe_16 rfl (lv_at hl 1 rfl) ?_
  refine ct_callV (As := [.ref (q 2), .int n]) (rest := []) X hP hD hS hA (k_X6_goTicks l G cI cS cL q (q 2) refusal isShot states length at_ good runs did pulls now n hI) cp_X6_goTicks aw_937 ⟨Nat.le_of_ble_eq_true rfl, Nat.le_of_ble_eq_true rfl⟩ [0, 3, 2] (cs := [mdC q refusal isShot states length at_ good runs did, rwC (q 5) cI 8 pulls, rwC (q 2) cI 129 now]) rfl (by decide) (cs' := [mdC q refusal isShot states length at_ good runs did, rwC (q 5) cI 8 ((f_X6_goTicks pulls now n).2.1), rwC (q 2) cI 129 ((f_X6_goTicks pulls now n).2.2)]) rfl rfl 4 rfl rfl (q0 := 0) rfl rfl hl.1 rfl (Nat.le_of_ble_eq_true rfl) dX6_wouldBe_17 ⟨Nat.zero_le _, Nat.zero_le _⟩ rfl (bs' := [mdC q refusal isShot states length at_ good runs did, rwC (q 1) cI 129 now, rwC (q 2) cI 129 ((f_X6_goTicks pulls now n).2.2), rwC (q 5) cI 8 ((f_X6_goTicks pulls now n).2.1), rwC (q 6) cI 8 group]) rfl (fun H locs hP hD hS => ?_)
  refine lv_istore (lv' := [(4, .int ((f_X6_goTicks pulls now n).1)), (0, .ref (q 0)), (1, .int n), (2, .int (nI k)), (3, .int w)]) hx hb dX6_wouldBe_20 hl (by decide) rfl (fun ls hl => ?_)
  refine lv_iload_n hx hb dX6_wouldBe_22 rfl (lv_at hl 3 rfl) ?_
  refine ct_callS (As := [.int (nI k)]) (rest := []) X hP hD hS hA (k_X6_spot l G cI cS cL  k) cq_X6_spot aw_951 ⟨Nat.le_of_ble_eq_true rfl, Nat.le_of_ble_eq_true rfl⟩ ([] : List Nat) (cs := []) rfl (by decide) (cs' := []) rfl rfl rfl hl.1 rfl (Nat.le_of_ble_eq_true rfl) dX6_wouldBe_23 ⟨Nat.zero_le _, Nat.zero_le _⟩ rfl (bs' := [mdC q refusal isShot states length at_ good runs did, rwC (q 1) cI 129 now, rwC (q 2) cI 129 ((f_X6_goTicks pulls now n).2.2), rwC (q 5) cI 8 ((f_X6_goTicks pulls now n).2.1), rwC (q 6) cI 8 group]) rfl (fun H locs hP hD hS => ?_)
  refine lv_istore (lv' := [(5, .int (nI (6 + (7 * k)))), (4, .int ((f_X6_goTicks pulls now n).1)), (0, .ref (q 0)), (1, .int n), (2, .int (nI k)), (3, .int w)]) hx hb dX6_wouldBe_26 hl (by decide) rfl (fun ls hl => ?_)
  refine lv_iload_n hx hb dX6_wouldBe_28 rfl (lv_at hl 5 rfl) ?_
  have hM_12 : ∀ (v_10 : Int32) (v_11 : Nat → Int32) (ls : Array Slot) (H : Heap) (locs : List Loc), v_10 = (if w = 0 then ((f_X6_goTicks pulls now n).2.2 ((6 + (7 * k)) + 2)) else (if w = (1 : Int32) then (((f_X6_goTicks pulls now n).2.2 ((6 + (7 * k)) + 4)) - (now ((6 + (7 * k)) + 4))) else (f_X6_groupSet group ((f_X6_goTicks pulls now n).2.2) k).1)) → v_11 = (if w = 0 then group else (if w = (1 : Int32) then group else (f_X6_groupSet group ((f_X6_goTicks pulls now n).2.2) k).2)) → lv_has ls 6 [] → va_P G classes [mdC q refusal isShot states length at_ good runs did, rwC (q 1) cI 129 now, rwC (q 2) cI 129 ((f_X6_goTicks pulls now n).2.2), rwC (q 5) cI 8 ((f_X6_goTicks pulls now n).2.1), rwC (q 6) cI 8 v_11].flatten H → va_D A [mdC q refusal isShot states length at_ good runs did, rwC (q 1) cI 129 now, rwC (q 2) cI 129 ((f_X6_goTicks pulls now n).2.2), rwC (q 5) cI 8 ((f_X6_goTicks pulls now n).2.1), rwC (q 6) cI 8 v_11].flatten → va_S A s.heap H locs → W p l e ({ frames := 5, cells := 0, slots := 0, locals := 116 } : Room) s m args below meth c H locs 0 0 QQ (F0 m 80 ls [.int v_10]) := by
    intro v_10 v_11 ls H locs e_v_10 e_v_11 hl hP hD hS
    subst e_v_10 e_v_11
    rw [← hQQ]; exact W.iret hx hb hr (ct_end (F := (f_X6_wouldBe now pulls group n k w)) (u := ((if w = 0 then ((f_X6_goTicks pulls now n).2.2 ((6 + (7 * k)) + 2)) else (if w = (1 : Int32) then (((f_X6_goTicks pulls now n).2.2 ((6 + (7 * k)) + 4)) - (now ((6 + (7 * k)) + 4))) else (f_X6_groupSet group ((f_X6_goTicks pulls now n).2.2) k).1)), (f_X6_goTicks pulls now n).2.2, (f_X6_goTicks pulls now n).2.1, (if w = 0 then group else (if w = (1 : Int32) then group else (f_X6_groupSet group ((f_X6_goTicks pulls now n).2.2) k).2)))) (rf := (fun u => some (.int u.1))) (wf := (fun u => [mdC q refusal isShot states length at_ good runs did, rwC (q 1) cI 129 now, rwC (q 2) cI 129 u.2.1, rwC (q 5) cI 8 u.2.2.1, rwC (q 6) cI 8 u.2.2.2].flatten)) rfl rfl hP hD hS) hS.2.2 dX6_wouldBe_80
  refine iv_ifne hx hb 44 dX6_wouldBe_29 (by decide) (fun c_1 => ?_) (fun c_1 => ?_)
  · refine lv_iload_n hx hb dX6_wouldBe_44 rfl (lv_at hl 5 rfl) ?_
    refine lv_iconst (v := 1) hx hb dX6_wouldBe_45 (by decide) ?_
    have hM_7 : ∀ (v_5 : Int32) (v_6 : Nat → Int32) (ls : Array Slot) (H : Heap) (locs : List Loc), v_5 = (if w = (1 : Int32) then (((f_X6_goTicks pulls now n).2.2 ((6 + (7 * k)) + 4)) - (now ((6 + (7 * k)) + 4))) else (f_X6_groupSet group ((f_X6_goTicks pulls now n).2.2) k).1) → v_6 = (if w = (1 : Int32) then group else (f_X6_groupSet group ((f_X6_goTicks pulls now n).2.2) k).2) → lv_has ls 6 [] → va_P G classes [mdC q refusal isShot states length at_ good runs did, rwC (q 1) cI 129 now, rwC (q 2) cI 129 ((f_X6_goTicks pulls now n).2.2), rwC (q 5) cI 8 ((f_X6_goTicks pulls now n).2.1), rwC (q 6) cI 8 v_6].flatten H → va_D A [mdC q refusal isShot states length at_ good runs did, rwC (q 1) cI 129 now, rwC (q 2) cI 129 ((f_X6_goTicks pulls now n).2.2), rwC (q 5) cI 8 ((f_X6_goTicks pulls now n).2.1), rwC (q 6) cI 8 v_6].flatten → va_S A s.heap H locs → W p l e ({ frames := 5, cells := 0, slots := 0, locals := 116 } : Room) s m args below meth c H locs 0 0 QQ (F0 m 80 ls [.int v_5]) := by
      intro v_5 v_6 ls H locs e_v_5 e_v_6 hl hP hD hS
      subst e_v_5 e_v_6
      exact hM_12 (if w = (1 : Int32) then (((f_X6_goTicks pulls now n).2.2 ((6 + (7 * k)) + 4)) - (now ((6 + (7 * k)) + 4))) else (f_X6_groupSet group ((f_X6_goTicks pulls now n).2.2) k).1) (if w = (1 : Int32) then group else (f_X6_groupSet group ((f_X6_goTicks pulls now n).2.2) k).2) _ _ _ (if_neg c_1).symm (if_neg c_1).symm (lv_sub hl [] rfl) hP hD hS
    refine iv_ne hx hb 71 dX6_wouldBe_46 (by decide) (fun c_2 => ?_) (fun c_2 => ?_)
    · refine lv_aload_n hx hb dX6_wouldBe_71 rfl (lv_at hl 2 rfl) ?_
      refine lv_aload_n hx hb dX6_wouldBe_72 rfl (lv_at hl 2 rfl) ?_
      refine va_get (D := G) (ci := 4) (C := RX6) (T := TX6) (N := 15) hx hb hw in_X6 hown hK hP 0 rfl rfl 2 (by decide) (hw _ aw_873) (fun _ h9 => h9) rfl dX6_wouldBe_73 ?_
      refine lv_iload_n hx hb dX6_wouldBe_76 rfl (lv_at hl 4 rfl) ?_
      refine ct_callV (As := [.ref (q 2), .int (nI k)]) (rest := []) X hP hD hS hA (k_X6_groupSet l G cI cS cL q (q 2) refusal isShot states length at_ good runs did group ((f_X6_goTicks pulls now n).2.2) k (by omega)) cp_X6_groupSet aw_1104 ⟨Nat.le_of_ble_eq_true rfl, Nat.le_of_ble_eq_true rfl⟩ [0, 4, 2] (cs := [mdC q refusal isShot states length at_ good runs did, rwC (q 6) cI 8 group, rwC (q 2) cI 129 ((f_X6_goTicks pulls now n).2.2)]) rfl (by decide) (cs' := [mdC q refusal isShot states length at_ good runs did, rwC (q 6) cI 8 ((f_X6_groupSet group ((f_X6_goTicks pulls now n).2.2) k).2), rwC (q 2) cI 129 ((f_X6_goTicks pulls now n).2.2)]) rfl rfl 4 rfl rfl (q0 := 0) rfl rfl hl.1 rfl (Nat.le_of_ble_eq_true rfl) dX6_wouldBe_77 ⟨Nat.zero_le _, Nat.zero_le _⟩ rfl (bs' := [mdC q refusal isShot states length at_ good runs did, rwC (q 1) cI 129 now, rwC (q 2) cI 129 ((f_X6_goTicks pulls now n).2.2), rwC (q 5) cI 8 ((f_X6_goTicks pulls now n).2.1), rwC (q 6) cI 8 ((f_X6_groupSet group ((f_X6_goTicks pulls now n).2.2) k).2)]) rfl (fun H locs hP hD hS => ?_)
      exact hM_7 ((f_X6_groupSet group ((f_X6_goTicks pulls now n).2.2) k).1) ((f_X6_groupSet group ((f_X6_goTicks pulls now n).2.2) k).2) _ _ _ (if_neg c_2).symm (if_neg c_2).symm (lv_sub hl [] rfl) hP hD hS
    · refine lv_aload_n hx hb dX6_wouldBe_49 rfl (lv_at hl 2 rfl) ?_
      refine va_get (D := G) (ci := 4) (C := RX6) (T := TX6) (N := 15) hx hb hw in_X6 hown hK hP 0 rfl rfl 2 (by decide) (hw _ aw_873) (fun _ h9 => h9) rfl dX6_wouldBe_50 ?_
      refine lv_iload hx hb dX6_wouldBe_53 (lv_at hl 0 rfl) ?_
      refine lv_iconst (v := 4) hx hb dX6_wouldBe_55 (by decide) ?_
      refine nv_iadd hx hb (6 + (7 * k)) 4 dX6_wouldBe_56 ?_
      refine nv_iald hx hb hK hP 2 0 rfl rfl ((6 + (7 * k)) + 4) (by omega) (by decide) dX6_wouldBe_57 ?_
      refine lv_aload_n hx hb dX6_wouldBe_58 rfl (lv_at hl 2 rfl) ?_
      refine va_get (D := G) (ci := 4) (C := RX6) (T := TX6) (N := 15) hx hb hw in_X6 hown hK hP 0 rfl rfl 1 (by decide) (hw _ aw_872) (fun _ h9 => h9) rfl dX6_wouldBe_59 ?_
      refine lv_iload hx hb dX6_wouldBe_62 (lv_at hl 0 rfl) ?_
      refine lv_iconst (v := 4) hx hb dX6_wouldBe_64 (by decide) ?_
      refine nv_iadd hx hb (6 + (7 * k)) 4 dX6_wouldBe_65 ?_
      refine nv_iald hx hb hK hP 1 0 rfl rfl ((6 + (7 * k)) + 4) (by omega) (by decide) dX6_wouldBe_66 ?_
      refine lv_isub hx hb dX6_wouldBe_67 ?_
      refine lv_goto (tgt := 80) hx hb dX6_wouldBe_68 (by decide) ?_
      exact hM_7 (((f_X6_goTicks pulls now n).2.2 ((6 + (7 * k)) + 4)) - (now ((6 + (7 * k)) + 4))) group _ _ _ (if_pos c_2).symm (if_pos c_2).symm (lv_sub hl [] rfl) hP hD hS
  · refine lv_aload_n hx hb dX6_wouldBe_32 rfl (lv_at hl 2 rfl) ?_
    refine va_get (D := G) (ci := 4) (C := RX6) (T := TX6) (N := 15) hx hb hw in_X6 hown hK hP 0 rfl rfl 2 (by decide) (hw _ aw_873) (fun _ h9 => h9) rfl dX6_wouldBe_33 ?_
    refine lv_iload hx hb dX6_wouldBe_36 (lv_at hl 0 rfl) ?_
    refine lv_iconst (v := 2) hx hb dX6_wouldBe_38 (by decide) ?_
    refine nv_iadd hx hb (6 + (7 * k)) 2 dX6_wouldBe_39 ?_
    refine nv_iald hx hb hK hP 2 0 rfl rfl ((6 + (7 * k)) + 2) (by omega) (by decide) dX6_wouldBe_40 ?_
    refine lv_goto (tgt := 80) hx hb dX6_wouldBe_41 (by decide) ?_
    exact hM_12 ((f_X6_goTicks pulls now n).2.2 ((6 + (7 * k)) + 2)) group _ _ _ (if_pos c_1).symm (if_pos c_1).symm (lv_sub hl [] rfl) hP hD hS
set_option maxRecDepth 100000 in
set_option maxHeartbeats 4000000 in
theorem k_X6_ifPassed (l : Launch) (G : va_G) (cI cS cL : ClassId) (q : Nat → Nat) (refusal : Int32) (isShot : Bool) (states : Nat) (length : Nat) (at_ : Nat) (good : Bool) (runs : Bool) (did : Int32) (now : Nat → Int32) (trial : Nat → Int32) (pulls : Nat → Int32) (group : Nat → Int32) (n : Int32) (k : Nat) (w : Int32) (hk : k < 8) (hI : InvB now) (hrf : ¬ (((f_X6_refused (if (f_X6_isClock (nI k)) = true then (if (f_X6_in n.toInt64 (1 : Int64) (200 : Int64)) = true then (if (f_X6_in w.toInt64 (0 : Int64) (2 : Int64)) = true then (0 : Int32) else (2 : Int32)) else (2 : Int32)) else (1 : Int32))).1) = true)) : Ct l G (tyl cI cS cL) yX6_ifPassed cX6_ifPassed 4 (some (Jvm.ClassFile.FieldType.int)) 6 141 0 0 [.ref (q 0), .int n, .int (nI k), .int w] [mdC q refusal isShot states length at_ good runs did, rwC (q 1) cI 129 now, rwC (q 2) cI 129 trial, rwC (q 5) cI 8 pulls, rwC (q 6) cI 8 group].flatten (f_X6_ifPassed now pulls group n k w) (fun u => some (.int u.1)) (fun u => [mdC q u.2.1 isShot states length at_ good runs did, rwC (q 1) cI 129 now, rwC (q 2) cI 129 u.2.2.1, rwC (q 5) cI 8 u.2.2.2.1, rwC (q 6) cI 8 u.2.2.2.2].flatten) := by
  refine Ct.of (by decide +kernel) (Nat.le_of_ble_eq_true rfl) ?_
  intro p e s m args below meth c A ls hx hb hr hml hw hown hlocks hin hK hN hP hD hS hA hl
  have hown : s.vm.findClass RX6 = some m.cls := hown
  have X : Cx p s m args c cX6_ifPassed 4 RX6 G (tyl cI cS cL) := ⟨hx, hb, hml, hown, hw, hK, hN⟩
  have hP : va_P G classes [mdC q refusal isShot states length at_ good runs did, rwC (q 1) cI 129 now, rwC (q 2) cI 129 trial, rwC (q 5) cI 8 pulls, rwC (q 6) cI 8 group].flatten s.heap := hP
  have hl : lv_has ls 4 [(0, .ref (q 0)), (1, .int n), (2, .int (nI k)), (3, .int w)] := hl
  generalize hQQ : MQ below _ args s 0 0 A = QQ
  refine lv_aload_n hx hb dX6_ifPassed_0 rfl (lv_at hl 0 rfl) ?_
  refine lv_iload_n hx hb dX6_ifPassed_1 rfl (lv_at hl 2 rfl) ?_
  refine ct_callS (As := [.int (nI k)]) (rest := [.ref (q 0)]) X hP hD hS hA (k_X6_isClock l G cI cS cL  (nI k)) cq_X6_isClock aw_973 ⟨Nat.le_of_ble_eq_true rfl, Nat.le_of_ble_eq_true rfl⟩ ([] : List Nat) (cs := []) rfl (by decide) (cs' := []) rfl rfl rfl hl.1 rfl (Nat.le_of_ble_eq_true rfl) dX6_ifPassed_2 ⟨Nat.zero_le _, Nat.zero_le _⟩ rfl (bs' := [mdC q refusal isShot states length at_ good runs did, rwC (q 1) cI 129 now, rwC (q 2) cI 129 trial, rwC (q 5) cI 8 pulls, rwC (q 6) cI 8 group]) rfl (fun H locs hP hD hS => ?_)
  have hM_15 : ∀ (v_14 : Int32) (ls : Array Slot) (H : Heap) (locs : List Loc), v_14 = (if (f_X6_isClock (nI k)) = true then (if (f_X6_in n.toInt64 (1 : Int64) (200 : Int64)) = true then (if (f_X6_in w.toInt64 (0 : Int64) (2 : Int64)) = true then (0 : Int32) else (2 : Int32)) else (2 : Int32)) else (1 : Int32)) → lv_has ls 4 [(0, .ref (q 0)), (1, .int n), (2, .int (nI k)), (3, .int w)] → va_P G classes [mdC q refusal isShot states length at_ good runs did, rwC (q 1) cI 129 now, rwC (q 2) cI 129 trial, rwC (q 5) cI 8 pulls, rwC (q 6) cI 8 group].flatten H → va_D A [mdC q refusal isShot states length at_ good runs did, rwC (q 1) cI 129 now, rwC (q 2) cI 129 trial, rwC (q 5) cI 8 pulls, rwC (q 6) cI 8 group].flatten → va_S A s.heap H locs → W p l e ({ frames := 6, cells := 0, slots := 0, locals := 141 } : Room) s m args below meth c H locs 0 0 QQ (F0 m 41 ls [.int v_14, .ref (q 0)]) := by
    intro v_14 ls H locs e_v_14 hl hP hD hS
    subst e_v_14
    refine ct_callV (As := [.int (if (f_X6_isClock (nI k)) = true then (if (f_X6_in n.toInt64 (1 : Int64) (200 : Int64)) = true then (if (f_X6_in w.toInt64 (0 : Int64) (2 : Int64)) = true then (0 : Int32) else (2 : Int32)) else (2 : Int32)) else (1 : Int32))]) (rest := []) X hP hD hS hA (k_X6_refused l G cI cS cL q refusal isShot states length at_ good runs did (if (f_X6_isClock (nI k)) = true then (if (f_X6_in n.toInt64 (1 : Int64) (200 : Int64)) = true then (if (f_X6_in w.toInt64 (0 : Int64) (2 : Int64)) = true then (0 : Int32) else (2 : Int32)) else (2 : Int32)) else (1 : Int32))) cp_X6_refused aw_929 ⟨Nat.le_of_ble_eq_true rfl, Nat.le_of_ble_eq_true rfl⟩ [0] (cs := [mdC q refusal isShot states length at_ good runs did]) rfl (by decide) (cs' := [mdC q ((f_X6_refused (if (f_X6_isClock (nI k)) = true then (if (f_X6_in n.toInt64 (1 : Int64) (200 : Int64)) = true then (if (f_X6_in w.toInt64 (0 : Int64) (2 : Int64)) = true then (0 : Int32) else (2 : Int32)) else (2 : Int32)) else (1 : Int32))).2) isShot states length at_ good runs did]) rfl rfl 4 rfl rfl (q0 := 0) rfl rfl hl.1 rfl (Nat.le_of_ble_eq_true rfl) dX6_ifPassed_41 ⟨Nat.zero_le _, Nat.zero_le _⟩ rfl (bs' := [mdC q ((f_X6_refused (if (f_X6_isClock (nI k)) = true then (if (f_X6_in n.toInt64 (1 : Int64) (200 : Int64)) = true then (if (f_X6_in w.toInt64 (0 : Int64) (2 : Int64)) = true then (0 : Int32) else (2 : Int32)) else (2 : Int32)) else (1 : Int32))).2) isShot states length at_ good runs did, rwC (q 1) cI 129 now, rwC (q 2) cI 129 trial, rwC (q 5) cI 8 pulls, rwC (q 6) cI 8 group]) rfl (fun H locs hP hD hS => ?_)
    refine bv_ifeq hx hb ((f_X6_refused (if (f_X6_isClock (nI k)) = true then (if (f_X6_in n.toInt64 (1 : Int64) (200 : Int64)) = true then (if (f_X6_in w.toInt64 (0 : Int64) (2 : Int64)) = true then (0 : Int32) else (2 : Int32)) else (2 : Int32)) else (1 : Int32))).1) 49 dX6_ifPassed_44 (by decide) (fun c_16 => ?_) (fun c => absurd c hrf)
    refine lv_aload_n hx hb dX6_ifPassed_49 rfl (lv_at hl 0 rfl) ?_
    refine lv_iload_n hx hb dX6_ifPassed_50 rfl (lv_at hl 1 rfl) ?_
    refine lv_iload_n hx hb dX6_ifPassed_51 rfl (lv_at hl 2 rfl) ?_
    refine lv_iload_n hx hb dX6_ifPassed_52 rfl (lv_at hl 3 rfl) ?_
    refine ct_callV (As := [.int n, .int (nI k), .int w]) (rest := []) X hP hD hS hA (k_X6_wouldBe l G cI cS cL q ((f_X6_refused (if (f_X6_isClock (nI k)) = true then (if (f_X6_in n.toInt64 (1 : Int64) (200 : Int64)) = true then (if (f_X6_in w.toInt64 (0 : Int64) (2 : Int64)) = true then (0 : Int32) else (2 : Int32)) else (2 : Int32)) else (1 : Int32))).2) isShot states length at_ good runs did now trial pulls group n k w (by omega) hI) cp_X6_wouldBe aw_1172 ⟨Nat.le_of_ble_eq_true rfl, Nat.le_of_ble_eq_true rfl⟩ [0, 1, 2, 3, 4] (cs := [mdC q ((f_X6_refused (if (f_X6_isClock (nI k)) = true then (if (f_X6_in n.toInt64 (1 : Int64) (200 : Int64)) = true then (if (f_X6_in w.toInt64 (0 : Int64) (2 : Int64)) = true then (0 : Int32) else (2 : Int32)) else (2 : Int32)) else (1 : Int32))).2) isShot states length at_ good runs did, rwC (q 1) cI 129 now, rwC (q 2) cI 129 trial, rwC (q 5) cI 8 pulls, rwC (q 6) cI 8 group]) rfl (by decide) (cs' := [mdC q ((f_X6_refused (if (f_X6_isClock (nI k)) = true then (if (f_X6_in n.toInt64 (1 : Int64) (200 : Int64)) = true then (if (f_X6_in w.toInt64 (0 : Int64) (2 : Int64)) = true then (0 : Int32) else (2 : Int32)) else (2 : Int32)) else (1 : Int32))).2) isShot states length at_ good runs did, rwC (q 1) cI 129 now, rwC (q 2) cI 129 ((f_X6_wouldBe now pulls group n k w).2.1), rwC (q 5) cI 8 ((f_X6_wouldBe now pulls group n k w).2.2.1), rwC (q 6) cI 8 ((f_X6_wouldBe now pulls group n k w).2.2.2)]) rfl rfl 4 rfl rfl (q0 := 0) rfl rfl hl.1 rfl (Nat.le_of_ble_eq_true rfl) dX6_ifPassed_53 ⟨Nat.zero_le _, Nat.zero_le _⟩ rfl (bs' := [mdC q ((f_X6_refused (if (f_X6_isClock (nI k)) = true then (if (f_X6_in n.toInt64 (1 : Int64) (200 : Int64)) = true then (if (f_X6_in w.toInt64 (0 : Int64) (2 : Int64)) = true then (0 : Int32) else (2 : Int32)) else (2 : Int32)) else (1 : Int32))).2) isShot states length at_ good runs did, rwC (q 1) cI 129 now, rwC (q 2) cI 129 ((f_X6_wouldBe now pulls group n k w).2.1), rwC (q 5) cI 8 ((f_X6_wouldBe now pulls group n k w).2.2.1), rwC (q 6) cI 8 ((f_X6_wouldBe now pulls group n k w).2.2.2)]) rfl (fun H locs hP hD hS => ?_)
    rw [← hQQ]; exact W.iret hx hb hr (ct_end (F := (f_X6_ifPassed now pulls group n k w)) (u := ((f_X6_wouldBe now pulls group n k w).1, (f_X6_refused (if (f_X6_isClock (nI k)) = true then (if (f_X6_in n.toInt64 (1 : Int64) (200 : Int64)) = true then (if (f_X6_in w.toInt64 (0 : Int64) (2 : Int64)) = true then (0 : Int32) else (2 : Int32)) else (2 : Int32)) else (1 : Int32))).2, (f_X6_wouldBe now pulls group n k w).2.1, (f_X6_wouldBe now pulls group n k w).2.2.1, (f_X6_wouldBe now pulls group n k w).2.2.2)) (rf := (fun u => some (.int u.1))) (wf := (fun u => [mdC q u.2.1 isShot states length at_ good runs did, rwC (q 1) cI 129 now, rwC (q 2) cI 129 u.2.2.1, rwC (q 5) cI 8 u.2.2.2.1, rwC (q 6) cI 8 u.2.2.2.2].flatten)) rfl rfl hP hD hS) hS.2.2 dX6_ifPassed_56
  refine bv_ifne hx hb (f_X6_isClock (nI k)) 12 dX6_ifPassed_5 (by decide) (fun c_1 => ?_) (fun c_1 => ?_)
  · refine lv_iload_n hx hb dX6_ifPassed_12 rfl (lv_at hl 1 rfl) ?_
    refine lv_i2l hx hb dX6_ifPassed_13 rfl ?_
    refine lv_lconst (v := 1) hx hb dX6_ifPassed_14 (by decide) ?_
    refine lv_ldc2 hx hb hown (hw _ aw_925) dX6_ifPassed_15 ?_
    refine ct_callS (As := [.long n.toInt64, .long (1 : Int64), .long (200 : Int64)]) (rest := [.ref (q 0)]) X hP hD hS hA (k_X6_in l G cI cS cL  n.toInt64 (1 : Int64) (200 : Int64)) cq_X6_in aw_926 ⟨Nat.le_of_ble_eq_true rfl, Nat.le_of_ble_eq_true rfl⟩ ([] : List Nat) (cs := []) rfl (by decide) (cs' := []) rfl rfl rfl hl.1 rfl (Nat.le_of_ble_eq_true rfl) dX6_ifPassed_18 ⟨Nat.zero_le _, Nat.zero_le _⟩ rfl (bs' := [mdC q refusal isShot states length at_ good runs did, rwC (q 1) cI 129 now, rwC (q 2) cI 129 trial, rwC (q 5) cI 8 pulls, rwC (q 6) cI 8 group]) rfl (fun H locs hP hD hS => ?_)
    have hM_11 : ∀ (v_10 : Int32) (ls : Array Slot) (H : Heap) (locs : List Loc), v_10 = (if (f_X6_in n.toInt64 (1 : Int64) (200 : Int64)) = true then (if (f_X6_in w.toInt64 (0 : Int64) (2 : Int64)) = true then (0 : Int32) else (2 : Int32)) else (2 : Int32)) → lv_has ls 4 [(0, .ref (q 0)), (1, .int n), (2, .int (nI k)), (3, .int w)] → va_P G classes [mdC q refusal isShot states length at_ good runs did, rwC (q 1) cI 129 now, rwC (q 2) cI 129 trial, rwC (q 5) cI 8 pulls, rwC (q 6) cI 8 group].flatten H → va_D A [mdC q refusal isShot states length at_ good runs did, rwC (q 1) cI 129 now, rwC (q 2) cI 129 trial, rwC (q 5) cI 8 pulls, rwC (q 6) cI 8 group].flatten → va_S A s.heap H locs → W p l e ({ frames := 6, cells := 0, slots := 0, locals := 141 } : Room) s m args below meth c H locs 0 0 QQ (F0 m 41 ls [.int v_10, .ref (q 0)]) := by
      intro v_10 ls H locs e_v_10 hl hP hD hS
      subst e_v_10
      exact hM_15 (if (f_X6_in n.toInt64 (1 : Int64) (200 : Int64)) = true then (if (f_X6_in w.toInt64 (0 : Int64) (2 : Int64)) = true then (0 : Int32) else (2 : Int32)) else (2 : Int32)) _ _ _ (if_pos c_1).symm (lv_sub hl [0, 1, 2, 3] rfl) hP hD hS
    refine bv_ifeq hx hb (f_X6_in n.toInt64 (1 : Int64) (200 : Int64)) 36 dX6_ifPassed_21 (by decide) (fun c_2 => ?_) (fun c_2 => ?_)
    · refine lv_iconst (v := 2) hx hb dX6_ifPassed_36 (by decide) ?_
      refine lv_goto (tgt := 41) hx hb dX6_ifPassed_37 (by decide) ?_
      exact hM_11 (2 : Int32) _ _ _ (if_neg c_2).symm (lv_sub hl [0, 1, 2, 3] rfl) hP hD hS
    · refine lv_iload_n hx hb dX6_ifPassed_24 rfl (lv_at hl 3 rfl) ?_
      refine lv_i2l hx hb dX6_ifPassed_25 rfl ?_
      refine lv_lconst (v := 0) hx hb dX6_ifPassed_26 (by decide) ?_
      refine lv_ldc2 hx hb hown (hw _ aw_990) dX6_ifPassed_27 ?_
      refine ct_callS (As := [.long w.toInt64, .long (0 : Int64), .long (2 : Int64)]) (rest := [.ref (q 0)]) X hP hD hS hA (k_X6_in l G cI cS cL  w.toInt64 (0 : Int64) (2 : Int64)) cq_X6_in aw_926 ⟨Nat.le_of_ble_eq_true rfl, Nat.le_of_ble_eq_true rfl⟩ ([] : List Nat) (cs := []) rfl (by decide) (cs' := []) rfl rfl rfl hl.1 rfl (Nat.le_of_ble_eq_true rfl) dX6_ifPassed_30 ⟨Nat.zero_le _, Nat.zero_le _⟩ rfl (bs' := [mdC q refusal isShot states length at_ good runs did, rwC (q 1) cI 129 now, rwC (q 2) cI 129 trial, rwC (q 5) cI 8 pulls, rwC (q 6) cI 8 group]) rfl (fun H locs hP hD hS => ?_)
      have hM_8 : ∀ (v_7 : Int32) (ls : Array Slot) (H : Heap) (locs : List Loc), v_7 = (if (f_X6_in w.toInt64 (0 : Int64) (2 : Int64)) = true then (0 : Int32) else (2 : Int32)) → lv_has ls 4 [(0, .ref (q 0)), (1, .int n), (2, .int (nI k)), (3, .int w)] → va_P G classes [mdC q refusal isShot states length at_ good runs did, rwC (q 1) cI 129 now, rwC (q 2) cI 129 trial, rwC (q 5) cI 8 pulls, rwC (q 6) cI 8 group].flatten H → va_D A [mdC q refusal isShot states length at_ good runs did, rwC (q 1) cI 129 now, rwC (q 2) cI 129 trial, rwC (q 5) cI 8 pulls, rwC (q 6) cI 8 group].flatten → va_S A s.heap H locs → W p l e ({ frames := 6, cells := 0, slots := 0, locals := 141 } : Room) s m args below meth c H locs 0 0 QQ (F0 m 41 ls [.int v_7, .ref (q 0)]) := by
        intro v_7 ls H locs e_v_7 hl hP hD hS
        subst e_v_7
        exact hM_11 (if (f_X6_in w.toInt64 (0 : Int64) (2 : Int64)) = true then (0 : Int32) else (2 : Int32)) _ _ _ (if_pos c_2).symm (lv_sub hl [0, 1, 2, 3] rfl) hP hD hS
      refine bv_ifne hx hb (f_X6_in w.toInt64 (0 : Int64) (2 : Int64)) 40 dX6_ifPassed_33 (by decide) (fun c_4 => ?_) (fun c_4 => ?_)
      · refine lv_iconst (v := 0) hx hb dX6_ifPassed_40 (by decide) ?_
        exact hM_8 (0 : Int32) _ _ _ (if_pos c_4).symm (lv_sub hl [0, 1, 2, 3] rfl) hP hD hS
      · refine lv_iconst (v := 2) hx hb dX6_ifPassed_36 (by decide) ?_
        refine lv_goto (tgt := 41) hx hb dX6_ifPassed_37 (by decide) ?_
        exact hM_8 (2 : Int32) _ _ _ (if_neg c_4).symm (lv_sub hl [0, 1, 2, 3] rfl) hP hD hS
  · refine lv_iconst (v := 1) hx hb dX6_ifPassed_8 (by decide) ?_
    refine lv_goto (tgt := 41) hx hb dX6_ifPassed_9 (by decide) ?_
    exact hM_15 (1 : Int32) _ _ _ (if_neg c_1).symm (lv_sub hl [0, 1, 2, 3] rfl) hP hD hS
set_option maxRecDepth 100000 in
set_option maxHeartbeats 4000000 in
theorem k_X6_ifPassed_R (l : Launch) (G : va_G) (cI cS cL : ClassId) (q : Nat → Nat) (refusal : Int32) (isShot : Bool) (states : Nat) (length : Nat) (at_ : Nat) (good : Bool) (runs : Bool) (did : Int32) (now : Nat → Int32) (trial : Nat → Int32) (pulls : Nat → Int32) (group : Nat → Int32) (n : Int32) (k : Int32) (w : Int32) (hrf : ((f_X6_refused (if (f_X6_isClock k) = true then (if (f_X6_in n.toInt64 (1 : Int64) (200 : Int64)) = true then (if (f_X6_in w.toInt64 (0 : Int64) (2 : Int64)) = true then (0 : Int32) else (2 : Int32)) else (2 : Int32)) else (1 : Int32))).1) = true) : Ct l G (tyl cI cS cL) yX6_ifPassed cX6_ifPassed 4 (some (Jvm.ClassFile.FieldType.int)) 2 45 0 0 [.ref (q 0), .int n, .int k, .int w] [mdC q refusal isShot states length at_ good runs did, rwC (q 1) cI 129 now, rwC (q 2) cI 129 trial, rwC (q 5) cI 8 pulls, rwC (q 6) cI 8 group].flatten (f_X6_ifPassed_R n k w) (fun u => some (.int u.1)) (fun u => [mdC q u.2 isShot states length at_ good runs did, rwC (q 1) cI 129 now, rwC (q 2) cI 129 trial, rwC (q 5) cI 8 pulls, rwC (q 6) cI 8 group].flatten) := by
  refine Ct.of (by decide +kernel) (Nat.le_of_ble_eq_true rfl) ?_
  intro p e s m args below meth c A ls hx hb hr hml hw hown hlocks hin hK hN hP hD hS hA hl
  have hown : s.vm.findClass RX6 = some m.cls := hown
  have X : Cx p s m args c cX6_ifPassed 4 RX6 G (tyl cI cS cL) := ⟨hx, hb, hml, hown, hw, hK, hN⟩
  have hP : va_P G classes [mdC q refusal isShot states length at_ good runs did, rwC (q 1) cI 129 now, rwC (q 2) cI 129 trial, rwC (q 5) cI 8 pulls, rwC (q 6) cI 8 group].flatten s.heap := hP
  have hl : lv_has ls 4 [(0, .ref (q 0)), (1, .int n), (2, .int k), (3, .int w)] := hl
  generalize hQQ : MQ below _ args s 0 0 A = QQ
  refine lv_aload_n hx hb dX6_ifPassed_0 rfl (lv_at hl 0 rfl) ?_
  refine lv_iload_n hx hb dX6_ifPassed_1 rfl (lv_at hl 2 rfl) ?_
  refine ct_callS (As := [.int k]) (rest := [.ref (q 0)]) X hP hD hS hA (k_X6_isClock l G cI cS cL  k) cq_X6_isClock aw_973 ⟨Nat.le_of_ble_eq_true rfl, Nat.le_of_ble_eq_true rfl⟩ ([] : List Nat) (cs := []) rfl (by decide) (cs' := []) rfl rfl rfl hl.1 rfl (Nat.le_of_ble_eq_true rfl) dX6_ifPassed_2 ⟨Nat.zero_le _, Nat.zero_le _⟩ rfl (bs' := [mdC q refusal isShot states length at_ good runs did, rwC (q 1) cI 129 now, rwC (q 2) cI 129 trial, rwC (q 5) cI 8 pulls, rwC (q 6) cI 8 group]) rfl (fun H locs hP hD hS => ?_)
  have hM_15 : ∀ (v_14 : Int32) (ls : Array Slot) (H : Heap) (locs : List Loc), v_14 = (if (f_X6_isClock k) = true then (if (f_X6_in n.toInt64 (1 : Int64) (200 : Int64)) = true then (if (f_X6_in w.toInt64 (0 : Int64) (2 : Int64)) = true then (0 : Int32) else (2 : Int32)) else (2 : Int32)) else (1 : Int32)) → lv_has ls 4 [(0, .ref (q 0)), (1, .int n), (2, .int k), (3, .int w)] → va_P G classes [mdC q refusal isShot states length at_ good runs did, rwC (q 1) cI 129 now, rwC (q 2) cI 129 trial, rwC (q 5) cI 8 pulls, rwC (q 6) cI 8 group].flatten H → va_D A [mdC q refusal isShot states length at_ good runs did, rwC (q 1) cI 129 now, rwC (q 2) cI 129 trial, rwC (q 5) cI 8 pulls, rwC (q 6) cI 8 group].flatten → va_S A s.heap H locs → W p l e ({ frames := 2, cells := 0, slots := 0, locals := 45 } : Room) s m args below meth c H locs 0 0 QQ (F0 m 41 ls [.int v_14, .ref (q 0)]) := by
    intro v_14 ls H locs e_v_14 hl hP hD hS
    subst e_v_14
    refine ct_callV (As := [.int (if (f_X6_isClock k) = true then (if (f_X6_in n.toInt64 (1 : Int64) (200 : Int64)) = true then (if (f_X6_in w.toInt64 (0 : Int64) (2 : Int64)) = true then (0 : Int32) else (2 : Int32)) else (2 : Int32)) else (1 : Int32))]) (rest := []) X hP hD hS hA (k_X6_refused l G cI cS cL q refusal isShot states length at_ good runs did (if (f_X6_isClock k) = true then (if (f_X6_in n.toInt64 (1 : Int64) (200 : Int64)) = true then (if (f_X6_in w.toInt64 (0 : Int64) (2 : Int64)) = true then (0 : Int32) else (2 : Int32)) else (2 : Int32)) else (1 : Int32))) cp_X6_refused aw_929 ⟨Nat.le_of_ble_eq_true rfl, Nat.le_of_ble_eq_true rfl⟩ [0] (cs := [mdC q refusal isShot states length at_ good runs did]) rfl (by decide) (cs' := [mdC q ((f_X6_refused (if (f_X6_isClock k) = true then (if (f_X6_in n.toInt64 (1 : Int64) (200 : Int64)) = true then (if (f_X6_in w.toInt64 (0 : Int64) (2 : Int64)) = true then (0 : Int32) else (2 : Int32)) else (2 : Int32)) else (1 : Int32))).2) isShot states length at_ good runs did]) rfl rfl 4 rfl rfl (q0 := 0) rfl rfl hl.1 rfl (Nat.le_of_ble_eq_true rfl) dX6_ifPassed_41 ⟨Nat.zero_le _, Nat.zero_le _⟩ rfl (bs' := [mdC q ((f_X6_refused (if (f_X6_isClock k) = true then (if (f_X6_in n.toInt64 (1 : Int64) (200 : Int64)) = true then (if (f_X6_in w.toInt64 (0 : Int64) (2 : Int64)) = true then (0 : Int32) else (2 : Int32)) else (2 : Int32)) else (1 : Int32))).2) isShot states length at_ good runs did, rwC (q 1) cI 129 now, rwC (q 2) cI 129 trial, rwC (q 5) cI 8 pulls, rwC (q 6) cI 8 group]) rfl (fun H locs hP hD hS => ?_)
    refine bv_ifeq hx hb ((f_X6_refused (if (f_X6_isClock k) = true then (if (f_X6_in n.toInt64 (1 : Int64) (200 : Int64)) = true then (if (f_X6_in w.toInt64 (0 : Int64) (2 : Int64)) = true then (0 : Int32) else (2 : Int32)) else (2 : Int32)) else (1 : Int32))).1) 49 dX6_ifPassed_44 (by decide) (fun c => absurd hrf c) (fun c_16 => ?_)
    refine lv_iconst (v := 0) hx hb dX6_ifPassed_47 (by decide) ?_
    rw [← hQQ]; exact W.iret hx hb hr (ct_end (F := (f_X6_ifPassed_R n k w)) (u := ((0 : Int32), (f_X6_refused (if (f_X6_isClock k) = true then (if (f_X6_in n.toInt64 (1 : Int64) (200 : Int64)) = true then (if (f_X6_in w.toInt64 (0 : Int64) (2 : Int64)) = true then (0 : Int32) else (2 : Int32)) else (2 : Int32)) else (1 : Int32))).2)) (rf := (fun u => some (.int u.1))) (wf := (fun u => [mdC q u.2 isShot states length at_ good runs did, rwC (q 1) cI 129 now, rwC (q 2) cI 129 trial, rwC (q 5) cI 8 pulls, rwC (q 6) cI 8 group].flatten)) rfl rfl hP hD hS) hS.2.2 dX6_ifPassed_48
  refine bv_ifne hx hb (f_X6_isClock k) 12 dX6_ifPassed_5 (by decide) (fun c_1 => ?_) (fun c_1 => ?_)
  · refine lv_iload_n hx hb dX6_ifPassed_12 rfl (lv_at hl 1 rfl) ?_
    refine lv_i2l hx hb dX6_ifPassed_13 rfl ?_
    refine lv_lconst (v := 1) hx hb dX6_ifPassed_14 (by decide) ?_
    refine lv_ldc2 hx hb hown (hw _ aw_925) dX6_ifPassed_15 ?_
    refine ct_callS (As := [.long n.toInt64, .long (1 : Int64), .long (200 : Int64)]) (rest := [.ref (q 0)]) X hP hD hS hA (k_X6_in l G cI cS cL  n.toInt64 (1 : Int64) (200 : Int64)) cq_X6_in aw_926 ⟨Nat.le_of_ble_eq_true rfl, Nat.le_of_ble_eq_true rfl⟩ ([] : List Nat) (cs := []) rfl (by decide) (cs' := []) rfl rfl rfl hl.1 rfl (Nat.le_of_ble_eq_true rfl) dX6_ifPassed_18 ⟨Nat.zero_le _, Nat.zero_le _⟩ rfl (bs' := [mdC q refusal isShot states length at_ good runs did, rwC (q 1) cI 129 now, rwC (q 2) cI 129 trial, rwC (q 5) cI 8 pulls, rwC (q 6) cI 8 group]) rfl (fun H locs hP hD hS => ?_)
    have hM_11 : ∀ (v_10 : Int32) (ls : Array Slot) (H : Heap) (locs : List Loc), v_10 = (if (f_X6_in n.toInt64 (1 : Int64) (200 : Int64)) = true then (if (f_X6_in w.toInt64 (0 : Int64) (2 : Int64)) = true then (0 : Int32) else (2 : Int32)) else (2 : Int32)) → lv_has ls 4 [(0, .ref (q 0)), (1, .int n), (2, .int k), (3, .int w)] → va_P G classes [mdC q refusal isShot states length at_ good runs did, rwC (q 1) cI 129 now, rwC (q 2) cI 129 trial, rwC (q 5) cI 8 pulls, rwC (q 6) cI 8 group].flatten H → va_D A [mdC q refusal isShot states length at_ good runs did, rwC (q 1) cI 129 now, rwC (q 2) cI 129 trial, rwC (q 5) cI 8 pulls, rwC (q 6) cI 8 group].flatten → va_S A s.heap H locs → W p l e ({ frames := 2, cells := 0, slots := 0, locals := 45 } : Room) s m args below meth c H locs 0 0 QQ (F0 m 41 ls [.int v_10, .ref (q 0)]) := by
      intro v_10 ls H locs e_v_10 hl hP hD hS
      subst e_v_10
      exact hM_15 (if (f_X6_in n.toInt64 (1 : Int64) (200 : Int64)) = true then (if (f_X6_in w.toInt64 (0 : Int64) (2 : Int64)) = true then (0 : Int32) else (2 : Int32)) else (2 : Int32)) _ _ _ (if_pos c_1).symm (lv_sub hl [0, 1, 2, 3] rfl) hP hD hS
    refine bv_ifeq hx hb (f_X6_in n.toInt64 (1 : Int64) (200 : Int64)) 36 dX6_ifPassed_21 (by decide) (fun c_2 => ?_) (fun c_2 => ?_)
    · refine lv_iconst (v := 2) hx hb dX6_ifPassed_36 (by decide) ?_
      refine lv_goto (tgt := 41) hx hb dX6_ifPassed_37 (by decide) ?_
      exact hM_11 (2 : Int32) _ _ _ (if_neg c_2).symm (lv_sub hl [0, 1, 2, 3] rfl) hP hD hS
    · refine lv_iload_n hx hb dX6_ifPassed_24 rfl (lv_at hl 3 rfl) ?_
      refine lv_i2l hx hb dX6_ifPassed_25 rfl ?_
      refine lv_lconst (v := 0) hx hb dX6_ifPassed_26 (by decide) ?_
      refine lv_ldc2 hx hb hown (hw _ aw_990) dX6_ifPassed_27 ?_
      refine ct_callS (As := [.long w.toInt64, .long (0 : Int64), .long (2 : Int64)]) (rest := [.ref (q 0)]) X hP hD hS hA (k_X6_in l G cI cS cL  w.toInt64 (0 : Int64) (2 : Int64)) cq_X6_in aw_926 ⟨Nat.le_of_ble_eq_true rfl, Nat.le_of_ble_eq_true rfl⟩ ([] : List Nat) (cs := []) rfl (by decide) (cs' := []) rfl rfl rfl hl.1 rfl (Nat.le_of_ble_eq_true rfl) dX6_ifPassed_30 ⟨Nat.zero_le _, Nat.zero_le _⟩ rfl (bs' := [mdC q refusal isShot states length at_ good runs did, rwC (q 1) cI 129 now, rwC (q 2) cI 129 trial, rwC (q 5) cI 8 pulls, rwC (q 6) cI 8 group]) rfl (fun H locs hP hD hS => ?_)
      have hM_8 : ∀ (v_7 : Int32) (ls : Array Slot) (H : Heap) (locs : List Loc), v_7 = (if (f_X6_in w.toInt64 (0 : Int64) (2 : Int64)) = true then (0 : Int32) else (2 : Int32)) → lv_has ls 4 [(0, .ref (q 0)), (1, .int n), (2, .int k), (3, .int w)] → va_P G classes [mdC q refusal isShot states length at_ good runs did, rwC (q 1) cI 129 now, rwC (q 2) cI 129 trial, rwC (q 5) cI 8 pulls, rwC (q 6) cI 8 group].flatten H → va_D A [mdC q refusal isShot states length at_ good runs did, rwC (q 1) cI 129 now, rwC (q 2) cI 129 trial, rwC (q 5) cI 8 pulls, rwC (q 6) cI 8 group].flatten → va_S A s.heap H locs → W p l e ({ frames := 2, cells := 0, slots := 0, locals := 45 } : Room) s m args below meth c H locs 0 0 QQ (F0 m 41 ls [.int v_7, .ref (q 0)]) := by
        intro v_7 ls H locs e_v_7 hl hP hD hS
        subst e_v_7
        exact hM_11 (if (f_X6_in w.toInt64 (0 : Int64) (2 : Int64)) = true then (0 : Int32) else (2 : Int32)) _ _ _ (if_pos c_2).symm (lv_sub hl [0, 1, 2, 3] rfl) hP hD hS
      refine bv_ifne hx hb (f_X6_in w.toInt64 (0 : Int64) (2 : Int64)) 40 dX6_ifPassed_33 (by decide) (fun c_4 => ?_) (fun c_4 => ?_)
      · refine lv_iconst (v := 0) hx hb dX6_ifPassed_40 (by decide) ?_
        exact hM_8 (0 : Int32) _ _ _ (if_pos c_4).symm (lv_sub hl [0, 1, 2, 3] rfl) hP hD hS
      · refine lv_iconst (v := 2) hx hb dX6_ifPassed_36 (by decide) ?_
        refine lv_goto (tgt := 41) hx hb dX6_ifPassed_37 (by decide) ?_
        exact hM_8 (2 : Int32) _ _ _ (if_neg c_4).symm (lv_sub hl [0, 1, 2, 3] rfl) hP hD hS
  · refine lv_iconst (v := 1) hx hb dX6_ifPassed_8 (by decide) ?_
    refine lv_goto (tgt := 41) hx hb dX6_ifPassed_9 (by decide) ?_
    exact hM_15 (1 : Int32) _ _ _ (if_neg c_1).symm (lv_sub hl [0, 1, 2, 3] rfl) hP hD hS
set_option maxRecDepth 100000 in
set_option maxHeartbeats 4000000 in
theorem k_X6_lockedBehind (l : Launch) (G : va_G) (cI cS cL : ClassId) (q : Nat → Nat) (refusal : Int32) (isShot : Bool) (states : Nat) (length : Nat) (at_ : Nat) (good : Bool) (runs : Bool) (did : Int32) (now : Nat → Int32) (trial : Nat → Int32) (pulls : Nat → Int32) (k : Nat) (o : Nat) (hk : k < 8) (ho : o < 8) (hI : InvB now) : Ct l G (tyl cI cS cL) yX6_lockedBehind cX6_lockedBehind 5 (some (Jvm.ClassFile.FieldType.int)) 4 92 0 0 [.ref (q 0), .int (nI k), .int (nI o)] [mdC q refusal isShot states length at_ good runs did, rwC (q 1) cI 129 now, rwC (q 2) cI 129 trial, rwC (q 5) cI 8 pulls].flatten (f_X6_lockedBehind now pulls k o) (fun u => some (.int u.1)) (fun u => [mdC q refusal isShot states length at_ good runs did, rwC (q 1) cI 129 now, rwC (q 2) cI 129 u.2.1, rwC (q 5) cI 8 u.2.2].flatten) := by
  refine Ct.of (by decide +kernel) (Nat.le_of_ble_eq_true rfl) ?_
  intro p e s m args below meth c A ls hx hb hr hml hw hown hlocks hin hK hN hP hD hS hA hl
  have hown : s.vm.findClass RX6 = some m.cls := hown
  have X : Cx p s m args c cX6_lockedBehind 5 RX6 G (tyl cI cS cL) := ⟨hx, hb, hml, hown, hw, hK, hN⟩
  have hP : va_P G classes [mdC q refusal isShot states length at_ good runs did, rwC (q 1) cI 129 now, rwC (q 2) cI 129 trial, rwC (q 5) cI 8 pulls].flatten s.heap := hP
  have hl : lv_has ls 5 [(0, .ref (q 0)), (1, .int (nI k)), (2, .int (nI o))] := hl
  generalize hQQ : MQ below _ args s 0 0 A = QQ
  refine lv_aload_n hx hb dX6_lockedBehind_0 rfl (lv_at hl 0 rfl) ?_
  refine va_get (D := G) (ci := 4) (C := RX6) (T := TX6) (N := 15) hx hb hw in_X6 hown hK hP 0 rfl rfl 1 (by decide) (hw _ aw_872) (fun _ h9 => h9) rfl dX6_lockedBehind_1 ?_
  refine lv_aload_n hx hb dX6_lockedBehind_4 rfl (lv_at hl 0 rfl) ?_
  refine va_get (D := G) (ci := 4) (C := RX6) (T := TX6) (N := 15) hx hb hw in_X6 hown hK hP 0 rfl rfl 2 (by decide) (hw _ aw_873) (fun _ h9 => h9) rfl dX6_lockedBehind_5 ?_
  refine ct_callS (As := [.ref (q 1), .ref (q 2)]) (rest := []) X hP hD hS hA (k_X6_copy l G cI cS cL (q 1) (q 2) now trial) cq_X6_copy aw_1074 ⟨Nat.le_of_ble_eq_true rfl, Nat.le_of_ble_eq_true rfl⟩ [1, 2] (cs := [rwC (q 1) cI 129 now, rwC (q 2) cI 129 trial]) rfl (by decide) (cs' := [rwC (q 1) cI 129 now, rwC (q 2) cI 129 now]) rfl rfl rfl hl.1 rfl (Nat.le_of_ble_eq_true rfl) dX6_lockedBehind_8 ⟨Nat.zero_le _, Nat.zero_le _⟩ rfl (bs' := [mdC q refusal isShot states length at_ good runs did, rwC (q 1) cI 129 now, rwC (q 2) cI 129 now, rwC (q 5) cI 8 pulls]) rfl (fun H locs hP hD hS => ?_)
  refine lv_iconst (v := 0) hx hb dX6_lockedBehind_11 (by decide) ?_
  refine lv_istore_n (lv' := [(3, .int (0 : Int32)), (0, .ref (q 0)), (1, .int (nI k)), (2, .int (nI o))]) hx hb dX6_lockedBehind_12 rfl hl (by decide) rfl (fun ls hl => ?_)
  refine itx_loopI (f := (L_X6_lockedBehind_13 k o)) 501 (fun (s13 : (Nat → Int32) × (Nat → Int32)) => InvB s13.1) (fun (i13 : Nat) (s13 : (Nat → Int32) × (Nat → Int32)) => ∀ (ls : Array Slot) (H : Heap) (locs : List Loc), lv_has ls 5 [(3, .int (nI i13)), (0, .ref (q 0)), (1, .int (nI k)), (2, .int (nI o))] → va_P G classes [mdC q refusal isShot states length at_ good runs did, rwC (q 1) cI 129 now, rwC (q 2) cI 129 s13.1, rwC (q 5) cI 8 s13.2].flatten H → va_D A [mdC q refusal isShot states length at_ good runs did, rwC (q 1) cI 129 now, rwC (q 2) cI 129 s13.1, rwC (q 5) cI 8 s13.2].flatten → va_S A s.heap H locs → W p l e ({ frames := 4, cells := 0, slots := 0, locals := 92 } : Room) s m args below meth c H locs 0 0 QQ (F0 m 13 ls [])) (itx (L_X6_lockedBehind_13 k o) 0 501 (now, pulls)) (fun i13 s13 hi13 hT13 hI ih => ?_) 501 0 (now, pulls) (by omega) hI rfl (fun n13 hs13 hI => ?_) ls _ _ (lv_sub hl [0, 1, 2, 3] rfl) hP hD hS
  · intro ls H locs hl hP hD hS
    refine lv_iload_n hx hb dX6_lockedBehind_13 rfl (lv_at hl 0 rfl) ?_
    refine lv_sipush (v := 500) hx hb dX6_lockedBehind_14 (by decide) ?_
    refine nv_gt hx hb i13 500 50 (by omega) (by omega) dX6_lockedBehind_17 (by decide) (fun hc => absurd hc (by omega)) (fun _ => ?_)
    refine lv_aload_n hx hb dX6_lockedBehind_20 rfl (lv_at hl 1 rfl) ?_
    refine va_get (D := G) (ci := 4) (C := RX6) (T := TX6) (N := 15) hx hb hw in_X6 hown hK hP 0 rfl rfl 2 (by decide) (hw _ aw_873) (fun _ h9 => h9) rfl dX6_lockedBehind_21 ?_
    refine lv_iload_n hx hb dX6_lockedBehind_24 rfl (lv_at hl 2 rfl) ?_
    refine lv_iload_n hx hb dX6_lockedBehind_25 rfl (lv_at hl 3 rfl) ?_
    refine ct_callS (As := [.ref (q 2), .int (nI k), .int (nI o)]) (rest := []) X hP hD hS hA (k_X6_isLocked l G cI cS cL (q 2) s13.1 k o (by omega) (by omega)) cq_X6_isLocked aw_1097 ⟨Nat.le_of_ble_eq_true rfl, Nat.le_of_ble_eq_true rfl⟩ [2] (cs := [rwC (q 2) cI 129 s13.1]) rfl (by decide) (cs' := [rwC (q 2) cI 129 s13.1]) rfl rfl rfl hl.1 rfl (Nat.le_of_ble_eq_true rfl) dX6_lockedBehind_26 ⟨Nat.zero_le _, Nat.zero_le _⟩ rfl (bs' := [mdC q refusal isShot states length at_ good runs did, rwC (q 1) cI 129 now, rwC (q 2) cI 129 s13.1, rwC (q 5) cI 8 s13.2]) rfl (fun H locs hP hD hS => ?_)
    refine bv_ifeq hx hb (f_X6_isLocked s13.1 k o) 34 dX6_lockedBehind_29 (by decide) (fun c_3 => ?_) (fun c_3 => ?_)
    · refine lv_aload_n hx hb dX6_lockedBehind_34 rfl (lv_at hl 1 rfl) ?_
      refine lv_aload_n hx hb dX6_lockedBehind_35 rfl (lv_at hl 1 rfl) ?_
      refine va_get (D := G) (ci := 4) (C := RX6) (T := TX6) (N := 15) hx hb hw in_X6 hown hK hP 0 rfl rfl 2 (by decide) (hw _ aw_873) (fun _ h9 => h9) rfl dX6_lockedBehind_36 ?_
      refine ct_callV (As := [.ref (q 2)]) (rest := []) X hP hD hS hA (k_X6_tick l G cI cS cL q (q 2) refusal isShot states length at_ good runs did s13.2 s13.1 hI) cp_X6_tick aw_941 ⟨Nat.le_of_ble_eq_true rfl, Nat.le_of_ble_eq_true rfl⟩ [0, 3, 2] (cs := [mdC q refusal isShot states length at_ good runs did, rwC (q 5) cI 8 s13.2, rwC (q 2) cI 129 s13.1]) rfl (by decide) (cs' := [mdC q refusal isShot states length at_ good runs did, rwC (q 5) cI 8 ((f_X6_tick s13.2 s13.1).2.1), rwC (q 2) cI 129 ((f_X6_tick s13.2 s13.1).2.2)]) rfl rfl 4 rfl rfl (q0 := 0) rfl rfl hl.1 rfl (Nat.le_of_ble_eq_true rfl) dX6_lockedBehind_39 ⟨Nat.zero_le _, Nat.zero_le _⟩ rfl (bs' := [mdC q refusal isShot states length at_ good runs did, rwC (q 1) cI 129 now, rwC (q 2) cI 129 ((f_X6_tick s13.2 s13.1).2.2), rwC (q 5) cI 8 ((f_X6_tick s13.2 s13.1).2.1)]) rfl (fun H locs hP hD hS => ?_)
      refine lv_istore (lv' := [(4, .int ((f_X6_tick s13.2 s13.1).1)), (3, .int (nI i13)), (0, .ref (q 0)), (1, .int (nI k)), (2, .int (nI o))]) hx hb dX6_lockedBehind_42 hl (by decide) rfl (fun ls hl => ?_)
      refine nv_iinc (k := 1) (lv' := [(3, .int (nI (i13 + 1))), (4, .int ((f_X6_tick s13.2 s13.1).1)), (0, .ref (q 0)), (1, .int (nI k)), (2, .int (nI o))]) hx hb i13 dX6_lockedBehind_44 hl rfl (by decide) rfl (fun ls hl => ?_)
      refine lv_goto (tgt := 13) hx hb dX6_lockedBehind_47 (by decide) ?_
      exact ih ((f_X6_tick s13.2 s13.1).2.2, (f_X6_tick s13.2 s13.1).2.1) (by first | (unfold L_X6_lockedBehind_13; rw [if_neg c_3]; first | done | rfl) | (unfold L_X6_lockedBehind_13; simp only [if_neg c_3])) (InvB_tick hI) _ _ _ (lv_sub hl [0, 2, 3, 4] rfl) hP hD hS
    · refine lv_iload_n hx hb dX6_lockedBehind_32 rfl (lv_at hl 0 rfl) ?_
      rw [← hQQ]; exact W.iret hx hb hr (ct_end (F := (f_X6_lockedBehind now pulls k o)) (u := ((nI i13), s13.1, s13.2)) (rf := (fun u => some (.int u.1))) (wf := (fun u => [mdC q refusal isShot states length at_ good runs did, rwC (q 1) cI 129 now, rwC (q 2) cI 129 u.2.1, rwC (q 5) cI 8 u.2.2].flatten)) (by first | (unfold f_X6_lockedBehind; rw [hT13 ((nI i13), s13.1, s13.2) (by first | (unfold L_X6_lockedBehind_13; rw [if_pos c_3]; first | done | rfl) | (unfold L_X6_lockedBehind_13; simp only [if_pos c_3]))]; first | done | rfl) | (unfold f_X6_lockedBehind; simp only [hT13 ((nI i13), s13.1, s13.2) (by first | (unfold L_X6_lockedBehind_13; rw [if_pos c_3]; first | done | rfl) | (unfold L_X6_lockedBehind_13; simp only [if_pos c_3]))])) rfl hP hD hS) hS.2.2 dX6_lockedBehind_33
  · intro ls H locs hl hP hD hS
    refine lv_iload_n hx hb dX6_lockedBehind_13 rfl (lv_at hl 0 rfl) ?_
    refine lv_sipush (v := 500) hx hb dX6_lockedBehind_14 (by decide) ?_
    refine nv_gt hx hb 501 500 50 (by omega) (by omega) dX6_lockedBehind_17 (by decide) (fun _ => ?_) (fun hc => absurd hc (by omega))
    refine lv_iconst (v := -1) hx hb dX6_lockedBehind_50 (by decide) ?_
    rw [← hQQ]; exact W.iret hx hb hr (ct_end (F := (f_X6_lockedBehind now pulls k o)) (u := ((-1 : Int32), n13.1, n13.2)) (rf := (fun u => some (.int u.1))) (wf := (fun u => [mdC q refusal isShot states length at_ good runs did, rwC (q 1) cI 129 now, rwC (q 2) cI 129 u.2.1, rwC (q 5) cI 8 u.2.2].flatten)) (by first | (unfold f_X6_lockedBehind; rw [hs13]; first | done | rfl) | (unfold f_X6_lockedBehind; simp only [hs13])) rfl hP hD hS) hS.2.2 dX6_lockedBehind_51
set_option maxRecDepth 100000 in
set_option maxHeartbeats 4000000 in
theorem k_X6_lockedIn (l : Launch) (G : va_G) (cI cS cL : ClassId) (q : Nat → Nat) (refusal : Int32) (isShot : Bool) (states : Nat) (length : Nat) (at_ : Nat) (good : Bool) (runs : Bool) (did : Int32) (now : Nat → Int32) (trial : Nat → Int32) (pulls : Nat → Int32) (k : Nat) (o : Nat) (hk : k < 8) (ho : o < 8) (hI : InvB now) (hrf : ¬ (((f_X6_refused (bI (if (f_X6_isPair (nI k) (nI o)) = true then false else true))).1) = true)) : Ct l G (tyl cI cS cL) yX6_lockedIn cX6_lockedIn 3 (some (Jvm.ClassFile.FieldType.int)) 5 116 0 0 [.ref (q 0), .int (nI k), .int (nI o)] [mdC q refusal isShot states length at_ good runs did, rwC (q 1) cI 129 now, rwC (q 2) cI 129 trial, rwC (q 5) cI 8 pulls].flatten (f_X6_lockedIn now pulls k o) (fun u => some (.int u.1)) (fun u => [mdC q u.2.1 isShot states length at_ good runs did, rwC (q 1) cI 129 now, rwC (q 2) cI 129 u.2.2.1, rwC (q 5) cI 8 u.2.2.2].flatten) := by
  refine Ct.of (by decide +kernel) (Nat.le_of_ble_eq_true rfl) ?_
  intro p e s m args below meth c A ls hx hb hr hml hw hown hlocks hin hK hN hP hD hS hA hl
  have hown : s.vm.findClass RX6 = some m.cls := hown
  have X : Cx p s m args c cX6_lockedIn 3 RX6 G (tyl cI cS cL) := ⟨hx, hb, hml, hown, hw, hK, hN⟩
  have hP : va_P G classes [mdC q refusal isShot states length at_ good runs did, rwC (q 1) cI 129 now, rwC (q 2) cI 129 trial, rwC (q 5) cI 8 pulls].flatten s.heap := hP
  have hl : lv_has ls 3 [(0, .ref (q 0)), (1, .int (nI k)), (2, .int (nI o))] := hl
  generalize hQQ : MQ below _ args s 0 0 A = QQ
  refine lv_aload_n hx hb dX6_lockedIn_0 rfl (lv_at hl 0 rfl) ?_
  refine lv_iload_n hx hb dX6_lockedIn_1 rfl (lv_at hl 1 rfl) ?_
  refine lv_iload_n hx hb dX6_lockedIn_2 rfl (lv_at hl 2 rfl) ?_
  refine ct_callS (As := [.int (nI k), .int (nI o)]) (rest := [.ref (q 0)]) X hP hD hS hA (k_X6_isPair l G cI cS cL  (nI k) (nI o)) cq_X6_isPair aw_1112 ⟨Nat.le_of_ble_eq_true rfl, Nat.le_of_ble_eq_true rfl⟩ ([] : List Nat) (cs := []) rfl (by decide) (cs' := []) rfl rfl rfl hl.1 rfl (Nat.le_of_ble_eq_true rfl) dX6_lockedIn_3 ⟨Nat.zero_le _, Nat.zero_le _⟩ rfl (bs' := [mdC q refusal isShot states length at_ good runs did, rwC (q 1) cI 129 now, rwC (q 2) cI 129 trial, rwC (q 5) cI 8 pulls]) rfl (fun H locs hP hD hS => ?_)
  have hM_5 : ∀ (v_4 : Bool) (ls : Array Slot) (H : Heap) (locs : List Loc), v_4 = (if (f_X6_isPair (nI k) (nI o)) = true then false else true) → lv_has ls 3 [(0, .ref (q 0)), (1, .int (nI k)), (2, .int (nI o))] → va_P G classes [mdC q refusal isShot states length at_ good runs did, rwC (q 1) cI 129 now, rwC (q 2) cI 129 trial, rwC (q 5) cI 8 pulls].flatten H → va_D A [mdC q refusal isShot states length at_ good runs did, rwC (q 1) cI 129 now, rwC (q 2) cI 129 trial, rwC (q 5) cI 8 pulls].flatten → va_S A s.heap H locs → W p l e ({ frames := 5, cells := 0, slots := 0, locals := 116 } : Room) s m args below meth c H locs 0 0 QQ (F0 m 14 ls [.int (bI v_4), .ref (q 0)]) := by
    intro v_4 ls H locs e_v_4 hl hP hD hS
    subst e_v_4
    refine ct_callV (As := [.int (bI (if (f_X6_isPair (nI k) (nI o)) = true then false else true))]) (rest := []) X hP hD hS hA (k_X6_refused l G cI cS cL q refusal isShot states length at_ good runs did (bI (if (f_X6_isPair (nI k) (nI o)) = true then false else true))) cp_X6_refused aw_929 ⟨Nat.le_of_ble_eq_true rfl, Nat.le_of_ble_eq_true rfl⟩ [0] (cs := [mdC q refusal isShot states length at_ good runs did]) rfl (by decide) (cs' := [mdC q ((f_X6_refused (bI (if (f_X6_isPair (nI k) (nI o)) = true then false else true))).2) isShot states length at_ good runs did]) rfl rfl 4 rfl rfl (q0 := 0) rfl rfl hl.1 rfl (Nat.le_of_ble_eq_true rfl) dX6_lockedIn_14 ⟨Nat.zero_le _, Nat.zero_le _⟩ rfl (bs' := [mdC q ((f_X6_refused (bI (if (f_X6_isPair (nI k) (nI o)) = true then false else true))).2) isShot states length at_ good runs did, rwC (q 1) cI 129 now, rwC (q 2) cI 129 trial, rwC (q 5) cI 8 pulls]) rfl (fun H locs hP hD hS => ?_)
    refine bv_ifeq hx hb ((f_X6_refused (bI (if (f_X6_isPair (nI k) (nI o)) = true then false else true))).1) 22 dX6_lockedIn_17 (by decide) (fun c_6 => ?_) (fun c => absurd c hrf)
    refine lv_aload_n hx hb dX6_lockedIn_22 rfl (lv_at hl 0 rfl) ?_
    refine lv_iload_n hx hb dX6_lockedIn_23 rfl (lv_at hl 1 rfl) ?_
    refine lv_iload_n hx hb dX6_lockedIn_24 rfl (lv_at hl 2 rfl) ?_
    refine ct_callV (As := [.int (nI k), .int (nI o)]) (rest := []) X hP hD hS hA (k_X6_lockedBehind l G cI cS cL q ((f_X6_refused (bI (if (f_X6_isPair (nI k) (nI o)) = true then false else true))).2) isShot states length at_ good runs did now trial pulls k o (by omega) (by omega) hI) cp_X6_lockedBehind aw_1180 ⟨Nat.le_of_ble_eq_true rfl, Nat.le_of_ble_eq_true rfl⟩ [0, 1, 2, 3] (cs := [mdC q ((f_X6_refused (bI (if (f_X6_isPair (nI k) (nI o)) = true then false else true))).2) isShot states length at_ good runs did, rwC (q 1) cI 129 now, rwC (q 2) cI 129 trial, rwC (q 5) cI 8 pulls]) rfl (by decide) (cs' := [mdC q ((f_X6_refused (bI (if (f_X6_isPair (nI k) (nI o)) = true then false else true))).2) isShot states length at_ good runs did, rwC (q 1) cI 129 now, rwC (q 2) cI 129 ((f_X6_lockedBehind now pulls k o).2.1), rwC (q 5) cI 8 ((f_X6_lockedBehind now pulls k o).2.2)]) rfl rfl 4 rfl rfl (q0 := 0) rfl rfl hl.1 rfl (Nat.le_of_ble_eq_true rfl) dX6_lockedIn_25 ⟨Nat.zero_le _, Nat.zero_le _⟩ rfl (bs' := [mdC q ((f_X6_refused (bI (if (f_X6_isPair (nI k) (nI o)) = true then false else true))).2) isShot states length at_ good runs did, rwC (q 1) cI 129 now, rwC (q 2) cI 129 ((f_X6_lockedBehind now pulls k o).2.1), rwC (q 5) cI 8 ((f_X6_lockedBehind now pulls k o).2.2)]) rfl (fun H locs hP hD hS => ?_)
    rw [← hQQ]; exact W.iret hx hb hr (ct_end (F := (f_X6_lockedIn now pulls k o)) (u := ((f_X6_lockedBehind now pulls k o).1, (f_X6_refused (bI (if (f_X6_isPair (nI k) (nI o)) = true then false else true))).2, (f_X6_lockedBehind now pulls k o).2.1, (f_X6_lockedBehind now pulls k o).2.2)) (rf := (fun u => some (.int u.1))) (wf := (fun u => [mdC q u.2.1 isShot states length at_ good runs did, rwC (q 1) cI 129 now, rwC (q 2) cI 129 u.2.2.1, rwC (q 5) cI 8 u.2.2.2].flatten)) rfl rfl hP hD hS) hS.2.2 dX6_lockedIn_28
  refine bv_ifeq hx hb (f_X6_isPair (nI k) (nI o)) 13 dX6_lockedIn_6 (by decide) (fun c_1 => ?_) (fun c_1 => ?_)
  · refine lv_iconst (v := 1) hx hb dX6_lockedIn_13 (by decide) ?_
    exact hM_5 true _ _ _ (if_neg c_1).symm (lv_sub hl [0, 1, 2] rfl) hP hD hS
  · refine lv_iconst (v := 0) hx hb dX6_lockedIn_9 (by decide) ?_
    refine lv_goto (tgt := 14) hx hb dX6_lockedIn_10 (by decide) ?_
    exact hM_5 false _ _ _ (if_pos c_1).symm (lv_sub hl [0, 1, 2] rfl) hP hD hS
set_option maxRecDepth 100000 in
set_option maxHeartbeats 4000000 in
theorem k_X6_lockedIn_R (l : Launch) (G : va_G) (cI cS cL : ClassId) (q : Nat → Nat) (refusal : Int32) (isShot : Bool) (states : Nat) (length : Nat) (at_ : Nat) (good : Bool) (runs : Bool) (did : Int32) (now : Nat → Int32) (trial : Nat → Int32) (pulls : Nat → Int32) (k : Int32) (o : Int32) (hrf : ((f_X6_refused (bI (if (f_X6_isPair k o) = true then false else true))).1) = true) : Ct l G (tyl cI cS cL) yX6_lockedIn cX6_lockedIn 3 (some (Jvm.ClassFile.FieldType.int)) 3 66 0 0 [.ref (q 0), .int k, .int o] [mdC q refusal isShot states length at_ good runs did, rwC (q 1) cI 129 now, rwC (q 2) cI 129 trial, rwC (q 5) cI 8 pulls].flatten (f_X6_lockedIn_R k o) (fun u => some (.int u.1)) (fun u => [mdC q u.2 isShot states length at_ good runs did, rwC (q 1) cI 129 now, rwC (q 2) cI 129 trial, rwC (q 5) cI 8 pulls].flatten) := by
  refine Ct.of (by decide +kernel) (Nat.le_of_ble_eq_true rfl) ?_
  intro p e s m args below meth c A ls hx hb hr hml hw hown hlocks hin hK hN hP hD hS hA hl
  have hown : s.vm.findClass RX6 = some m.cls := hown
  have X : Cx p s m args c cX6_lockedIn 3 RX6 G (tyl cI cS cL) := ⟨hx, hb, hml, hown, hw, hK, hN⟩
  have hP : va_P G classes [mdC q refusal isShot states length at_ good runs did, rwC (q 1) cI 129 now, rwC (q 2) cI 129 trial, rwC (q 5) cI 8 pulls].flatten s.heap := hP
  have hl : lv_has ls 3 [(0, .ref (q 0)), (1, .int k), (2, .int o)] := hl
  generalize hQQ : MQ below _ args s 0 0 A = QQ
  refine lv_aload_n hx hb dX6_lockedIn_0 rfl (lv_at hl 0 rfl) ?_
  refine lv_iload_n hx hb dX6_lockedIn_1 rfl (lv_at hl 1 rfl) ?_
  refine lv_iload_n hx hb dX6_lockedIn_2 rfl (lv_at hl 2 rfl) ?_
  refine ct_callS (As := [.int k, .int o]) (rest := [.ref (q 0)]) X hP hD hS hA (k_X6_isPair l G cI cS cL  k o) cq_X6_isPair aw_1112 ⟨Nat.le_of_ble_eq_true rfl, Nat.le_of_ble_eq_true rfl⟩ ([] : List Nat) (cs := []) rfl (by decide) (cs' := []) rfl rfl rfl hl.1 rfl (Nat.le_of_ble_eq_true rfl) dX6_lockedIn_3 ⟨Nat.zero_le _, Nat.zero_le _⟩ rfl (bs' := [mdC q refusal isShot states length at_ good runs did, rwC (q 1) cI 129 now, rwC (q 2) cI 129 trial, rwC (q 5) cI 8 pulls]) rfl (fun H locs hP hD hS => ?_)
  have hM_5 : ∀ (v_4 : Bool) (ls : Array Slot) (H : Heap) (locs : List Loc), v_4 = (if (f_X6_isPair k o) = true then false else true) → lv_has ls 3 [(0, .ref (q 0)), (1, .int k), (2, .int o)] → va_P G classes [mdC q refusal isShot states length at_ good runs did, rwC (q 1) cI 129 now, rwC (q 2) cI 129 trial, rwC (q 5) cI 8 pulls].flatten H → va_D A [mdC q refusal isShot states length at_ good runs did, rwC (q 1) cI 129 now, rwC (q 2) cI 129 trial, rwC (q 5) cI 8 pulls].flatten → va_S A s.heap H locs → W p l e ({ frames := 3, cells := 0, slots := 0, locals := 66 } : Room) s m args below meth c H locs 0 0 QQ (F0 m 14 ls [.int (bI v_4), .ref (q 0)]) := by
    intro v_4 ls H locs e_v_4 hl hP hD hS
    subst e_v_4
    refine ct_callV (As := [.int (bI (if (f_X6_isPair k o) = true then false else true))]) (rest := []) X hP hD hS hA (k_X6_refused l G cI cS cL q refusal isShot states length at_ good runs did (bI (if (f_X6_isPair k o) = true then false else true))) cp_X6_refused aw_929 ⟨Nat.le_of_ble_eq_true rfl, Nat.le_of_ble_eq_true rfl⟩ [0] (cs := [mdC q refusal isShot states length at_ good runs did]) rfl (by decide) (cs' := [mdC q ((f_X6_refused (bI (if (f_X6_isPair k o) = true then false else true))).2) isShot states length at_ good runs did]) rfl rfl 4 rfl rfl (q0 := 0) rfl rfl hl.1 rfl (Nat.le_of_ble_eq_true rfl) dX6_lockedIn_14 ⟨Nat.zero_le _, Nat.zero_le _⟩ rfl (bs' := [mdC q ((f_X6_refused (bI (if (f_X6_isPair k o) = true then false else true))).2) isShot states length at_ good runs did, rwC (q 1) cI 129 now, rwC (q 2) cI 129 trial, rwC (q 5) cI 8 pulls]) rfl (fun H locs hP hD hS => ?_)
    refine bv_ifeq hx hb ((f_X6_refused (bI (if (f_X6_isPair k o) = true then false else true))).1) 22 dX6_lockedIn_17 (by decide) (fun c => absurd hrf c) (fun c_6 => ?_)
    refine lv_iconst (v := 0) hx hb dX6_lockedIn_20 (by decide) ?_
    rw [← hQQ]; exact W.iret hx hb hr (ct_end (F := (f_X6_lockedIn_R k o)) (u := ((0 : Int32), (f_X6_refused (bI (if (f_X6_isPair k o) = true then false else true))).2)) (rf := (fun u => some (.int u.1))) (wf := (fun u => [mdC q u.2 isShot states length at_ good runs did, rwC (q 1) cI 129 now, rwC (q 2) cI 129 trial, rwC (q 5) cI 8 pulls].flatten)) rfl rfl hP hD hS) hS.2.2 dX6_lockedIn_21
  refine bv_ifeq hx hb (f_X6_isPair k o) 13 dX6_lockedIn_6 (by decide) (fun c_1 => ?_) (fun c_1 => ?_)
  · refine lv_iconst (v := 1) hx hb dX6_lockedIn_13 (by decide) ?_
    exact hM_5 true _ _ _ (if_neg c_1).symm (lv_sub hl [0, 1, 2] rfl) hP hD hS
  · refine lv_iconst (v := 0) hx hb dX6_lockedIn_9 (by decide) ?_
    refine lv_goto (tgt := 14) hx hb dX6_lockedIn_10 (by decide) ?_
    exact hM_5 false _ _ _ (if_pos c_1).symm (lv_sub hl [0, 1, 2] rfl) hP hD hS
set_option maxRecDepth 100000 in
set_option maxHeartbeats 4000000 in
theorem k_X6_soonest (l : Launch) (G : va_G) (cI cS cL : ClassId) (q : Nat → Nat) (refusal : Int32) (isShot : Bool) (states : Nat) (length : Nat) (at_ : Nat) (good : Bool) (runs : Bool) (did : Int32) (now : Nat → Int32) (trial : Nat → Int32) (pulls : Nat → Int32) (hI : InvB now) : Ct l G (tyl cI cS cL) yX6_soonest cX6_soonest 2 (some (Jvm.ClassFile.FieldType.int)) 4 92 0 0 [.ref (q 0)] [mdC q refusal isShot states length at_ good runs did, rwC (q 1) cI 129 now, rwC (q 2) cI 129 trial, rwC (q 5) cI 8 pulls].flatten (f_X6_soonest now pulls) (fun u => some (.int u.1)) (fun u => [mdC q refusal isShot states length at_ good runs did, rwC (q 1) cI 129 now, rwC (q 2) cI 129 u.2.1, rwC (q 5) cI 8 u.2.2].flatten) := by
  refine Ct.of (by decide +kernel) (Nat.le_of_ble_eq_true rfl) ?_
  intro p e s m args below meth c A ls hx hb hr hml hw hown hlocks hin hK hN hP hD hS hA hl
  have hown : s.vm.findClass RX6 = some m.cls := hown
  have X : Cx p s m args c cX6_soonest 2 RX6 G (tyl cI cS cL) := ⟨hx, hb, hml, hown, hw, hK, hN⟩
  have hP : va_P G classes [mdC q refusal isShot states length at_ good runs did, rwC (q 1) cI 129 now, rwC (q 2) cI 129 trial, rwC (q 5) cI 8 pulls].flatten s.heap := hP
  have hl : lv_has ls 2 [(0, .ref (q 0))] := hl
  generalize hQQ : MQ below _ args s 0 0 A = QQ
  refine lv_aload_n hx hb dX6_soonest_0 rfl (lv_at hl 0 rfl) ?_
  refine va_get (D := G) (ci := 4) (C := RX6) (T := TX6) (N := 15) hx hb hw in_X6 hown hK hP 0 rfl rfl 1 (by decide) (hw _ aw_872) (fun _ h9 => h9) rfl dX6_soonest_1 ?_
  refine lv_aload_n hx hb dX6_soonest_4 rfl (lv_at hl 0 rfl) ?_
  refine va_get (D := G) (ci := 4) (C := RX6) (T := TX6) (N := 15) hx hb hw in_X6 hown hK hP 0 rfl rfl 2 (by decide) (hw _ aw_873) (fun _ h9 => h9) rfl dX6_soonest_5 ?_
  refine ct_callS (As := [.ref (q 1), .ref (q 2)]) (rest := []) X hP hD hS hA (k_X6_copy l G cI cS cL (q 1) (q 2) now trial) cq_X6_copy aw_1074 ⟨Nat.le_of_ble_eq_true rfl, Nat.le_of_ble_eq_true rfl⟩ [1, 2] (cs := [rwC (q 1) cI 129 now, rwC (q 2) cI 129 trial]) rfl (by decide) (cs' := [rwC (q 1) cI 129 now, rwC (q 2) cI 129 now]) rfl rfl rfl hl.1 rfl (Nat.le_of_ble_eq_true rfl) dX6_soonest_8 ⟨Nat.zero_le _, Nat.zero_le _⟩ rfl (bs' := [mdC q refusal isShot states length at_ good runs did, rwC (q 1) cI 129 now, rwC (q 2) cI 129 now, rwC (q 5) cI 8 pulls]) rfl (fun H locs hP hD hS => ?_)
  refine lv_iconst (v := 1) hx hb dX6_soonest_11 (by decide) ?_
  refine lv_istore_n (lv' := [(1, .int (1 : Int32)), (0, .ref (q 0))]) hx hb dX6_soonest_12 rfl hl (by decide) rfl (fun ls hl => ?_)
  refine itx_loopI (f := L_X6_soonest_13) 501 (fun (s13 : (Nat → Int32) × (Nat → Int32)) => InvB s13.1) (fun (i13 : Nat) (s13 : (Nat → Int32) × (Nat → Int32)) => ∀ (ls : Array Slot) (H : Heap) (locs : List Loc), lv_has ls 2 [(1, .int (nI i13)), (0, .ref (q 0))] → va_P G classes [mdC q refusal isShot states length at_ good runs did, rwC (q 1) cI 129 now, rwC (q 2) cI 129 s13.1, rwC (q 5) cI 8 s13.2].flatten H → va_D A [mdC q refusal isShot states length at_ good runs did, rwC (q 1) cI 129 now, rwC (q 2) cI 129 s13.1, rwC (q 5) cI 8 s13.2].flatten → va_S A s.heap H locs → W p l e ({ frames := 4, cells := 0, slots := 0, locals := 92 } : Room) s m args below meth c H locs 0 0 QQ (F0 m 13 ls [])) (itx L_X6_soonest_13 1 500 (now, pulls)) (fun i13 s13 hi13 hT13 hI ih => ?_) 500 1 (now, pulls) (by omega) hI rfl (fun n13 hs13 hI => ?_) ls _ _ (lv_sub hl [0, 1] rfl) hP hD hS
  · intro ls H locs hl hP hD hS
    refine lv_iload_n hx hb dX6_soonest_13 rfl (lv_at hl 0 rfl) ?_
    refine lv_sipush (v := 500) hx hb dX6_soonest_14 (by decide) ?_
    refine nv_gt hx hb i13 500 39 (by omega) (by omega) dX6_soonest_17 (by decide) (fun hc => absurd hc (by omega)) (fun _ => ?_)
    refine lv_aload_n hx hb dX6_soonest_20 rfl (lv_at hl 1 rfl) ?_
    refine lv_aload_n hx hb dX6_soonest_21 rfl (lv_at hl 1 rfl) ?_
    refine va_get (D := G) (ci := 4) (C := RX6) (T := TX6) (N := 15) hx hb hw in_X6 hown hK hP 0 rfl rfl 2 (by decide) (hw _ aw_873) (fun _ h9 => h9) rfl dX6_soonest_22 ?_
    refine ct_callV (As := [.ref (q 2)]) (rest := []) X hP hD hS hA (k_X6_tick l G cI cS cL q (q 2) refusal isShot states length at_ good runs did s13.2 s13.1 hI) cp_X6_tick aw_941 ⟨Nat.le_of_ble_eq_true rfl, Nat.le_of_ble_eq_true rfl⟩ [0, 3, 2] (cs := [mdC q refusal isShot states length at_ good runs did, rwC (q 5) cI 8 s13.2, rwC (q 2) cI 129 s13.1]) rfl (by decide) (cs' := [mdC q refusal isShot states length at_ good runs did, rwC (q 5) cI 8 ((f_X6_tick s13.2 s13.1).2.1), rwC (q 2) cI 129 ((f_X6_tick s13.2 s13.1).2.2)]) rfl rfl 4 rfl rfl (q0 := 0) rfl rfl hl.1 rfl (Nat.le_of_ble_eq_true rfl) dX6_soonest_25 ⟨Nat.zero_le _, Nat.zero_le _⟩ rfl (bs' := [mdC q refusal isShot states length at_ good runs did, rwC (q 1) cI 129 now, rwC (q 2) cI 129 ((f_X6_tick s13.2 s13.1).2.2), rwC (q 5) cI 8 ((f_X6_tick s13.2 s13.1).2.1)]) rfl (fun H locs hP hD hS => ?_)
    refine lv_if_le (tgt := 33) hx hb dX6_soonest_28 (by decide) (fun c_3 => ?_) (fun c_3 => ?_)
    · refine nv_iinc (k := 0) (lv' := [(1, .int (nI (i13 + 1))), (0, .ref (q 0))]) hx hb i13 dX6_soonest_33 hl rfl (by decide) rfl (fun ls hl => ?_)
      refine lv_goto (tgt := 13) hx hb dX6_soonest_36 (by decide) ?_
      exact ih ((f_X6_tick s13.2 s13.1).2.2, (f_X6_tick s13.2 s13.1).2.1) (by first | (unfold L_X6_soonest_13; rw [if_pos c_3]; first | done | rfl) | (unfold L_X6_soonest_13; simp only [if_pos c_3])) (InvB_tick hI) _ _ _ (lv_sub hl [0, 1] rfl) hP hD hS
    · refine lv_iload_n hx hb dX6_soonest_31 rfl (lv_at hl 0 rfl) ?_
      rw [← hQQ]; exact W.iret hx hb hr (ct_end (F := (f_X6_soonest now pulls)) (u := ((nI i13), (f_X6_tick s13.2 s13.1).2.2, (f_X6_tick s13.2 s13.1).2.1)) (rf := (fun u => some (.int u.1))) (wf := (fun u => [mdC q refusal isShot states length at_ good runs did, rwC (q 1) cI 129 now, rwC (q 2) cI 129 u.2.1, rwC (q 5) cI 8 u.2.2].flatten)) (by first | (unfold f_X6_soonest; rw [hT13 ((nI i13), (f_X6_tick s13.2 s13.1).2.2, (f_X6_tick s13.2 s13.1).2.1) (by first | (unfold L_X6_soonest_13; rw [if_neg c_3]; first | done | rfl) | (unfold L_X6_soonest_13; simp only [if_neg c_3]))]; first | done | rfl) | (unfold f_X6_soonest; simp only [hT13 ((nI i13), (f_X6_tick s13.2 s13.1).2.2, (f_X6_tick s13.2 s13.1).2.1) (by first | (unfold L_X6_soonest_13; rw [if_neg c_3]; first | done | rfl) | (unfold L_X6_soonest_13; simp only [if_neg c_3]))])) rfl hP hD hS) hS.2.2 dX6_soonest_32
  · intro ls H locs hl hP hD hS
    refine lv_iload_n hx hb dX6_soonest_13 rfl (lv_at hl 0 rfl) ?_
    refine lv_sipush (v := 500) hx hb dX6_soonest_14 (by decide) ?_
    refine nv_gt hx hb 501 500 39 (by omega) (by omega) dX6_soonest_17 (by decide) (fun _ => ?_) (fun hc => absurd hc (by omega))
    refine lv_iconst (v := -1) hx hb dX6_soonest_39 (by decide) ?_
    rw [← hQQ]; exact W.iret hx hb hr (ct_end (F := (f_X6_soonest now pulls)) (u := ((-1 : Int32), n13.1, n13.2)) (rf := (fun u => some (.int u.1))) (wf := (fun u => [mdC q refusal isShot states length at_ good runs did, rwC (q 1) cI 129 now, rwC (q 2) cI 129 u.2.1, rwC (q 5) cI 8 u.2.2].flatten)) (by first | (unfold f_X6_soonest; rw [hs13]; first | done | rfl) | (unfold f_X6_soonest; simp only [hs13])) rfl hP hD hS) hS.2.2 dX6_soonest_40
set_option maxRecDepth 100000 in
set_option maxHeartbeats 4000000 in
theorem k_X6_nextStrike (l : Launch) (G : va_G) (cI cS cL : ClassId) (q : Nat → Nat) (refusal : Int32) (isShot : Bool) (states : Nat) (length : Nat) (at_ : Nat) (good : Bool) (runs : Bool) (did : Int32) (now : Nat → Int32) (trial : Nat → Int32) (pulls : Nat → Int32) (hI : InvB now) : Ct l G (tyl cI cS cL) yX6_nextStrike cX6_nextStrike 1 (some (Jvm.ClassFile.FieldType.int)) 5 113 0 0 [.ref (q 0)] [mdC q refusal isShot states length at_ good runs did, rwC (q 1) cI 129 now, rwC (q 2) cI 129 trial, rwC (q 5) cI 8 pulls].flatten (f_X6_nextStrike now pulls) (fun u => some (.int u.1)) (fun u => [mdC q u.2.1 isShot states length at_ good runs did, rwC (q 1) cI 129 now, rwC (q 2) cI 129 u.2.2.1, rwC (q 5) cI 8 u.2.2.2].flatten) := by
  refine Ct.of (by decide +kernel) (Nat.le_of_ble_eq_true rfl) ?_
  intro p e s m args below meth c A ls hx hb hr hml hw hown hlocks hin hK hN hP hD hS hA hl
  have hown : s.vm.findClass RX6 = some m.cls := hown
  have X : Cx p s m args c cX6_nextStrike 1 RX6 G (tyl cI cS cL) := ⟨hx, hb, hml, hown, hw, hK, hN⟩
  have hP : va_P G classes [mdC q refusal isShot states length at_ good runs did, rwC (q 1) cI 129 now, rwC (q 2) cI 129 trial, rwC (q 5) cI 8 pulls].flatten s.heap := hP
  have hl : lv_has ls 1 [(0, .ref (q 0))] := hl
  generalize hQQ : MQ below _ args s 0 0 A = QQ
  refine lv_aload_n hx hb dX6_nextStrike_0 rfl (lv_at hl 0 rfl) ?_
  refine lv_iconst (v := 0) hx hb dX6_nextStrike_1 (by decide) ?_
  refine nv_put (D := G) (ci := 4) (ty := .int) (v := .int (0 : Int32)) (C := RX6) (T := TX6) (N := 15) hx hb hw in_X6 tyX6 tyX6_ok nmX6 hown hK hP hD hS 0 rfl rfl 0 (by decide) (hw _ aw_871) (fun _ h9 => h9) rfl (by decide +kernel) rfl rfl (Nat.le_of_ble_eq_true rfl) dX6_nextStrike_2 (ws' := [mdC q (0 : Int32) isShot states length at_ good runs did, rwC (q 1) cI 129 now, rwC (q 2) cI 129 trial, rwC (q 5) cI 8 pulls].flatten) rfl (fun H locs hP hD hS => ?_)
  refine lv_aload_n hx hb dX6_nextStrike_5 rfl (lv_at hl 0 rfl) ?_
  refine ct_callV (As := []) (rest := []) X hP hD hS hA (k_X6_soonest l G cI cS cL q (0 : Int32) isShot states length at_ good runs did now trial pulls hI) cp_X6_soonest aw_1192 ⟨Nat.le_of_ble_eq_true rfl, Nat.le_of_ble_eq_true rfl⟩ [0, 1, 2, 3] (cs := [mdC q (0 : Int32) isShot states length at_ good runs did, rwC (q 1) cI 129 now, rwC (q 2) cI 129 trial, rwC (q 5) cI 8 pulls]) rfl (by decide) (cs' := [mdC q (0 : Int32) isShot states length at_ good runs did, rwC (q 1) cI 129 now, rwC (q 2) cI 129 ((f_X6_soonest now pulls).2.1), rwC (q 5) cI 8 ((f_X6_soonest now pulls).2.2)]) rfl rfl 4 rfl rfl (q0 := 0) rfl rfl hl.1 rfl (Nat.le_of_ble_eq_true rfl) dX6_nextStrike_6 ⟨Nat.zero_le _, Nat.zero_le _⟩ rfl (bs' := [mdC q (0 : Int32) isShot states length at_ good runs did, rwC (q 1) cI 129 now, rwC (q 2) cI 129 ((f_X6_soonest now pulls).2.1), rwC (q 5) cI 8 ((f_X6_soonest now pulls).2.2)]) rfl (fun H locs hP hD hS => ?_)
  rw [← hQQ]; exact W.iret hx hb hr (ct_end (F := (f_X6_nextStrike now pulls)) (u := ((f_X6_soonest now pulls).1, (0 : Int32), (f_X6_soonest now pulls).2.1, (f_X6_soonest now pulls).2.2)) (rf := (fun u => some (.int u.1))) (wf := (fun u => [mdC q u.2.1 isShot states length at_ good runs did, rwC (q 1) cI 129 now, rwC (q 2) cI 129 u.2.2.1, rwC (q 5) cI 8 u.2.2.2].flatten)) rfl rfl hP hD hS) hS.2.2 dX6_nextStrike_9
set_option maxRecDepth 100000 in
set_option maxHeartbeats 4000000 in
theorem k_X6_thrown (l : Launch) (G : va_G) (cI cS cL : ClassId) (q : Nat → Nat) (refusal : Int32) (isShot : Bool) (states : Nat) (length : Nat) (at_ : Nat) (good : Bool) (runs : Bool) (did : Int32) : Ct l G (tyl cI cS cL) yX6_thrown cX6_thrown 1 (some (Jvm.ClassFile.FieldType.int)) 0 0 0 0 [.ref (q 0)] [mdC q refusal isShot states length at_ good runs did].flatten (f_X6_thrown refusal) (fun u => some (.int u)) (fun _ => [mdC q refusal isShot states length at_ good runs did].flatten) := by
  refine Ct.of (by decide +kernel) (Nat.le_of_ble_eq_true rfl) ?_
  intro p e s m args below meth c A ls hx hb hr hml hw hown hlocks hin hK hN hP hD hS hA hl
  have hown : s.vm.findClass RX6 = some m.cls := hown
  have X : Cx p s m args c cX6_thrown 1 RX6 G (tyl cI cS cL) := ⟨hx, hb, hml, hown, hw, hK, hN⟩
  have hP : va_P G classes [mdC q refusal isShot states length at_ good runs did].flatten s.heap := hP
  have hl : lv_has ls 1 [(0, .ref (q 0))] := hl
  generalize hQQ : MQ below _ args s 0 0 A = QQ
  refine lv_aload_n hx hb dX6_thrown_0 rfl (lv_at hl 0 rfl) ?_
  refine va_get (D := G) (ci := 4) (C := RX6) (T := TX6) (N := 15) hx hb hw in_X6 hown hK hP 0 rfl rfl 0 (by decide) (hw _ aw_871) (fun _ h9 => h9) rfl dX6_thrown_1 ?_
  rw [← hQQ]; exact W.iret hx hb hr (ct_end (F := (f_X6_thrown refusal)) (u := refusal) (rf := (fun u => some (.int u))) (wf := (fun _ => [mdC q refusal isShot states length at_ good runs did].flatten)) rfl rfl hP hD hS) hS.2.2 dX6_thrown_4
set_option maxRecDepth 100000 in
set_option maxHeartbeats 4000000 in
theorem k_X6_move (l : Launch) (G : va_G) (cI cS cL : ClassId) (q : Nat → Nat) (refusal : Int32) (isShot : Bool) (states : Nat) (length : Nat) (at_ : Nat) (good : Bool) (runs : Bool) (did : Int32) (now : Nat → Int32) (book : Nat → Int32) (k : Nat) (b : Nat) (hk : k < 8) (hb3 : b < 3) (hst : states ≤ 6) (hrf : ¬ (((f_X6_refused (if (if (f_X6_isClock (nI k)) = true then (if (f_X6_isBeam (nI b)) = true then true else false) else false) = true then (if (f_X6_beamOf now k) = (nI b) then (2 : Int32) else (0 : Int32)) else (1 : Int32))).1) = true)) : Ct l G (tyl cI cS cL) yX6_move cX6_move 4 (some (Jvm.ClassFile.FieldType.int)) 3 65 0 0 [.ref (q 0), .int (nI k), .int (nI b)] [mdC q refusal isShot states length at_ good runs did, rwC (q 1) cI 129 now, rwC (q 4) cI 774 book].flatten (f_X6_move states now book k b) (fun u => some (.int u.1)) (fun u => [mdC q u.2.1 isShot u.2.2.1 length at_ good runs did, rwC (q 1) cI 129 u.2.2.2.1, rwC (q 4) cI 774 u.2.2.2.2].flatten) := by
  refine Ct.of (by decide +kernel) (Nat.le_of_ble_eq_true rfl) ?_
  intro p e s m args below meth c A ls hx hb hr hml hw hown hlocks hin hK hN hP hD hS hA hl
  have hown : s.vm.findClass RX6 = some m.cls := hown
  have X : Cx p s m args c cX6_move 4 RX6 G (tyl cI cS cL) := ⟨hx, hb, hml, hown, hw, hK, hN⟩
  have hP : va_P G classes [mdC q refusal isShot states length at_ good runs did, rwC (q 1) cI 129 now, rwC (q 4) cI 774 book].flatten s.heap := hP
  have hl : lv_has ls 4 [(0, .ref (q 0)), (1, .int (nI k)), (2, .int (nI b))] := hl
  generalize hQQ : MQ below _ args s 0 0 A = QQ
  refine lv_iload_n hx hb dX6_move_0 rfl (lv_at hl 1 rfl) ?_
  refine ct_callS (As := [.int (nI k)]) (rest := []) X hP hD hS hA (k_X6_isClock l G cI cS cL  (nI k)) cq_X6_isClock aw_973 ⟨Nat.le_of_ble_eq_true rfl, Nat.le_of_ble_eq_true rfl⟩ ([] : List Nat) (cs := []) rfl (by decide) (cs' := []) rfl rfl rfl hl.1 rfl (Nat.le_of_ble_eq_true rfl) dX6_move_1 ⟨Nat.zero_le _, Nat.zero_le _⟩ rfl (bs' := [mdC q refusal isShot states length at_ good runs did, rwC (q 1) cI 129 now, rwC (q 4) cI 774 book]) rfl (fun H locs hP hD hS => ?_)
  have hM_10 : ∀ (v_9 : Bool) (ls : Array Slot) (H : Heap) (locs : List Loc), v_9 = (if (f_X6_isClock (nI k)) = true then (if (f_X6_isBeam (nI b)) = true then true else false) else false) → lv_has ls 4 [(0, .ref (q 0)), (1, .int (nI k)), (2, .int (nI b))] → va_P G classes [mdC q refusal isShot states length at_ good runs did, rwC (q 1) cI 129 now, rwC (q 4) cI 774 book].flatten H → va_D A [mdC q refusal isShot states length at_ good runs did, rwC (q 1) cI 129 now, rwC (q 4) cI 774 book].flatten → va_S A s.heap H locs → W p l e ({ frames := 3, cells := 0, slots := 0, locals := 65 } : Room) s m args below meth c H locs 0 0 QQ (F0 m 19 ls [.int (bI v_9)]) := by
    intro v_9 ls H locs e_v_9 hl hP hD hS
    subst e_v_9
    refine lv_istore_n (lv' := [(3, .int (bI (if (f_X6_isClock (nI k)) = true then (if (f_X6_isBeam (nI b)) = true then true else false) else false))), (0, .ref (q 0)), (1, .int (nI k)), (2, .int (nI b))]) hx hb dX6_move_19 rfl hl (by decide) rfl (fun ls hl => ?_)
    refine lv_aload_n hx hb dX6_move_20 rfl (lv_at hl 1 rfl) ?_
    refine lv_iload_n hx hb dX6_move_21 rfl (lv_at hl 0 rfl) ?_
    have hM_20 : ∀ (v_19 : Int32) (ls : Array Slot) (H : Heap) (locs : List Loc), v_19 = (if (if (f_X6_isClock (nI k)) = true then (if (f_X6_isBeam (nI b)) = true then true else false) else false) = true then (if (f_X6_beamOf now k) = (nI b) then (2 : Int32) else (0 : Int32)) else (1 : Int32)) → lv_has ls 4 [(0, .ref (q 0)), (1, .int (nI k)), (2, .int (nI b))] → va_P G classes [mdC q refusal isShot states length at_ good runs did, rwC (q 1) cI 129 now, rwC (q 4) cI 774 book].flatten H → va_D A [mdC q refusal isShot states length at_ good runs did, rwC (q 1) cI 129 now, rwC (q 4) cI 774 book].flatten → va_S A s.heap H locs → W p l e ({ frames := 3, cells := 0, slots := 0, locals := 65 } : Room) s m args below meth c H locs 0 0 QQ (F0 m 46 ls [.int v_19, .ref (q 0)]) := by
      intro v_19 ls H locs e_v_19 hl hP hD hS
      subst e_v_19
      refine ct_callV (As := [.int (if (if (f_X6_isClock (nI k)) = true then (if (f_X6_isBeam (nI b)) = true then true else false) else false) = true then (if (f_X6_beamOf now k) = (nI b) then (2 : Int32) else (0 : Int32)) else (1 : Int32))]) (rest := []) X hP hD hS hA (k_X6_refused l G cI cS cL q refusal isShot states length at_ good runs did (if (if (f_X6_isClock (nI k)) = true then (if (f_X6_isBeam (nI b)) = true then true else false) else false) = true then (if (f_X6_beamOf now k) = (nI b) then (2 : Int32) else (0 : Int32)) else (1 : Int32))) cp_X6_refused aw_929 ⟨Nat.le_of_ble_eq_true rfl, Nat.le_of_ble_eq_true rfl⟩ [0] (cs := [mdC q refusal isShot states length at_ good runs did]) rfl (by decide) (cs' := [mdC q ((f_X6_refused (if (if (f_X6_isClock (nI k)) = true then (if (f_X6_isBeam (nI b)) = true then true else false) else false) = true then (if (f_X6_beamOf now k) = (nI b) then (2 : Int32) else (0 : Int32)) else (1 : Int32))).2) isShot states length at_ good runs did]) rfl rfl 4 rfl rfl (q0 := 0) rfl rfl hl.1 rfl (Nat.le_of_ble_eq_true rfl) dX6_move_46 ⟨Nat.zero_le _, Nat.zero_le _⟩ rfl (bs' := [mdC q ((f_X6_refused (if (if (f_X6_isClock (nI k)) = true then (if (f_X6_isBeam (nI b)) = true then true else false) else false) = true then (if (f_X6_beamOf now k) = (nI b) then (2 : Int32) else (0 : Int32)) else (1 : Int32))).2) isShot states length at_ good runs did, rwC (q 1) cI 129 now, rwC (q 4) cI 774 book]) rfl (fun H locs hP hD hS => ?_)
      refine bv_ifeq hx hb ((f_X6_refused (if (if (f_X6_isClock (nI k)) = true then (if (f_X6_isBeam (nI b)) = true then true else false) else false) = true then (if (f_X6_beamOf now k) = (nI b) then (2 : Int32) else (0 : Int32)) else (1 : Int32))).1) 54 dX6_move_49 (by decide) (fun c_21 => ?_) (fun c => absurd c hrf)
      refine lv_aload_n hx hb dX6_move_54 rfl (lv_at hl 0 rfl) ?_
      refine ct_callV (As := []) (rest := []) X hP hD hS hA (k_X6_save l G cI cS cL q ((f_X6_refused (if (if (f_X6_isClock (nI k)) = true then (if (f_X6_isBeam (nI b)) = true then true else false) else false) = true then (if (f_X6_beamOf now k) = (nI b) then (2 : Int32) else (0 : Int32)) else (1 : Int32))).2) isShot states length at_ good runs did now book hst) cp_X6_save aw_933 ⟨Nat.le_of_ble_eq_true rfl, Nat.le_of_ble_eq_true rfl⟩ [0, 1, 2] (cs := [mdC q ((f_X6_refused (if (if (f_X6_isClock (nI k)) = true then (if (f_X6_isBeam (nI b)) = true then true else false) else false) = true then (if (f_X6_beamOf now k) = (nI b) then (2 : Int32) else (0 : Int32)) else (1 : Int32))).2) isShot states length at_ good runs did, rwC (q 1) cI 129 now, rwC (q 4) cI 774 book]) rfl (by decide) (cs' := [mdC q ((f_X6_refused (if (if (f_X6_isClock (nI k)) = true then (if (f_X6_isBeam (nI b)) = true then true else false) else false) = true then (if (f_X6_beamOf now k) = (nI b) then (2 : Int32) else (0 : Int32)) else (1 : Int32))).2) isShot ((f_X6_save states now book).1) length at_ good runs did, rwC (q 1) cI 129 now, rwC (q 4) cI 774 ((f_X6_save states now book).2)]) rfl rfl 4 rfl rfl (q0 := 0) rfl rfl hl.1 rfl (Nat.le_of_ble_eq_true rfl) dX6_move_55 ⟨Nat.zero_le _, Nat.zero_le _⟩ rfl (bs' := [mdC q ((f_X6_refused (if (if (f_X6_isClock (nI k)) = true then (if (f_X6_isBeam (nI b)) = true then true else false) else false) = true then (if (f_X6_beamOf now k) = (nI b) then (2 : Int32) else (0 : Int32)) else (1 : Int32))).2) isShot ((f_X6_save states now book).1) length at_ good runs did, rwC (q 1) cI 129 now, rwC (q 4) cI 774 ((f_X6_save states now book).2)]) rfl (fun H locs hP hD hS => ?_)
      refine lv_aload_n hx hb dX6_move_58 rfl (lv_at hl 0 rfl) ?_
      refine lv_iload_n hx hb dX6_move_59 rfl (lv_at hl 1 rfl) ?_
      refine lv_iload_n hx hb dX6_move_60 rfl (lv_at hl 2 rfl) ?_
      refine ct_callV (As := [.int (nI k), .int (nI b)]) (rest := []) X hP hD hS hA (k_X6_doMove l G cI cS cL q ((f_X6_refused (if (if (f_X6_isClock (nI k)) = true then (if (f_X6_isBeam (nI b)) = true then true else false) else false) = true then (if (f_X6_beamOf now k) = (nI b) then (2 : Int32) else (0 : Int32)) else (1 : Int32))).2) isShot ((f_X6_save states now book).1) length at_ good runs did now k (nI b) (by omega)) cp_X6_doMove aw_991 ⟨Nat.le_of_ble_eq_true rfl, Nat.le_of_ble_eq_true rfl⟩ [0, 1] (cs := [mdC q ((f_X6_refused (if (if (f_X6_isClock (nI k)) = true then (if (f_X6_isBeam (nI b)) = true then true else false) else false) = true then (if (f_X6_beamOf now k) = (nI b) then (2 : Int32) else (0 : Int32)) else (1 : Int32))).2) isShot ((f_X6_save states now book).1) length at_ good runs did, rwC (q 1) cI 129 now]) rfl (by decide) (cs' := [mdC q ((f_X6_refused (if (if (f_X6_isClock (nI k)) = true then (if (f_X6_isBeam (nI b)) = true then true else false) else false) = true then (if (f_X6_beamOf now k) = (nI b) then (2 : Int32) else (0 : Int32)) else (1 : Int32))).2) isShot ((f_X6_save states now book).1) length at_ good runs did, rwC (q 1) cI 129 ((f_X6_doMove now k (nI b)).2)]) rfl rfl 4 rfl rfl (q0 := 0) rfl rfl hl.1 rfl (Nat.le_of_ble_eq_true rfl) dX6_move_61 ⟨Nat.zero_le _, Nat.zero_le _⟩ rfl (bs' := [mdC q ((f_X6_refused (if (if (f_X6_isClock (nI k)) = true then (if (f_X6_isBeam (nI b)) = true then true else false) else false) = true then (if (f_X6_beamOf now k) = (nI b) then (2 : Int32) else (0 : Int32)) else (1 : Int32))).2) isShot ((f_X6_save states now book).1) length at_ good runs did, rwC (q 1) cI 129 ((f_X6_doMove now k (nI b)).2), rwC (q 4) cI 774 ((f_X6_save states now book).2)]) rfl (fun H locs hP hD hS => ?_)
      rw [← hQQ]; exact W.iret hx hb hr (ct_end (F := (f_X6_move states now book k b)) (u := ((f_X6_doMove now k (nI b)).1, (f_X6_refused (if (if (f_X6_isClock (nI k)) = true then (if (f_X6_isBeam (nI b)) = true then true else false) else false) = true then (if (f_X6_beamOf now k) = (nI b) then (2 : Int32) else (0 : Int32)) else (1 : Int32))).2, (f_X6_save states now book).1, (f_X6_doMove now k (nI b)).2, (f_X6_save states now book).2)) (rf := (fun u => some (.int u.1))) (wf := (fun u => [mdC q u.2.1 isShot u.2.2.1 length at_ good runs did, rwC (q 1) cI 129 u.2.2.2.1, rwC (q 4) cI 774 u.2.2.2.2].flatten)) rfl rfl hP hD hS) hS.2.2 dX6_move_64
    refine bv_ifne hx hb (if (f_X6_isClock (nI k)) = true then (if (f_X6_isBeam (nI b)) = true then true else false) else false) 29 dX6_move_22 (by decide) (fun c_11 => ?_) (fun c_11 => ?_)
    · refine lv_aload_n hx hb dX6_move_29 rfl (lv_at hl 1 rfl) ?_
      refine va_get (D := G) (ci := 4) (C := RX6) (T := TX6) (N := 15) hx hb hw in_X6 hown hK hP 0 rfl rfl 1 (by decide) (hw _ aw_872) (fun _ h9 => h9) rfl dX6_move_30 ?_
      refine lv_iload_n hx hb dX6_move_33 rfl (lv_at hl 2 rfl) ?_
      refine ct_callS (As := [.ref (q 1), .int (nI k)]) (rest := [.ref (q 0)]) X hP hD hS hA (k_X6_beamOf l G cI cS cL (q 1) now k (by omega)) cq_X6_beamOf aw_954 ⟨Nat.le_of_ble_eq_true rfl, Nat.le_of_ble_eq_true rfl⟩ [1] (cs := [rwC (q 1) cI 129 now]) rfl (by decide) (cs' := [rwC (q 1) cI 129 now]) rfl rfl rfl hl.1 rfl (Nat.le_of_ble_eq_true rfl) dX6_move_34 ⟨Nat.zero_le _, Nat.zero_le _⟩ rfl (bs' := [mdC q refusal isShot states length at_ good runs did, rwC (q 1) cI 129 now, rwC (q 4) cI 774 book]) rfl (fun H locs hP hD hS => ?_)
      refine lv_iload_n hx hb dX6_move_37 rfl (lv_at hl 3 rfl) ?_
      have hM_16 : ∀ (v_15 : Int32) (ls : Array Slot) (H : Heap) (locs : List Loc), v_15 = (if (f_X6_beamOf now k) = (nI b) then (2 : Int32) else (0 : Int32)) → lv_has ls 4 [(0, .ref (q 0)), (1, .int (nI k)), (2, .int (nI b))] → va_P G classes [mdC q refusal isShot states length at_ good runs did, rwC (q 1) cI 129 now, rwC (q 4) cI 774 book].flatten H → va_D A [mdC q refusal isShot states length at_ good runs did, rwC (q 1) cI 129 now, rwC (q 4) cI 774 book].flatten → va_S A s.heap H locs → W p l e ({ frames := 3, cells := 0, slots := 0, locals := 65 } : Room) s m args below meth c H locs 0 0 QQ (F0 m 46 ls [.int v_15, .ref (q 0)]) := by
        intro v_15 ls H locs e_v_15 hl hP hD hS
        subst e_v_15
        exact hM_20 (if (f_X6_beamOf now k) = (nI b) then (2 : Int32) else (0 : Int32)) _ _ _ (if_pos c_11).symm (lv_sub hl [0, 1, 2] rfl) hP hD hS
      refine iv_ne hx hb 45 dX6_move_38 (by decide) (fun c_12 => ?_) (fun c_12 => ?_)
      · refine lv_iconst (v := 0) hx hb dX6_move_45 (by decide) ?_
        exact hM_16 (0 : Int32) _ _ _ (if_neg c_12).symm (lv_sub hl [1, 2, 3] rfl) hP hD hS
      · refine lv_iconst (v := 2) hx hb dX6_move_41 (by decide) ?_
        refine lv_goto (tgt := 46) hx hb dX6_move_42 (by decide) ?_
        exact hM_16 (2 : Int32) _ _ _ (if_pos c_12).symm (lv_sub hl [1, 2, 3] rfl) hP hD hS
    · refine lv_iconst (v := 1) hx hb dX6_move_25 (by decide) ?_
      refine lv_goto (tgt := 46) hx hb dX6_move_26 (by decide) ?_
      exact hM_20 (1 : Int32) _ _ _ (if_neg c_11).symm (lv_sub hl [1, 2, 3] rfl) hP hD hS
  refine bv_ifeq hx hb (f_X6_isClock (nI k)) 18 dX6_move_4 (by decide) (fun c_1 => ?_) (fun c_1 => ?_)
  · refine lv_iconst (v := 0) hx hb dX6_move_18 (by decide) ?_
    exact hM_10 false _ _ _ (if_neg c_1).symm (lv_sub hl [0, 1, 2] rfl) hP hD hS
  · refine lv_iload_n hx hb dX6_move_7 rfl (lv_at hl 2 rfl) ?_
    refine ct_callS (As := [.int (nI b)]) (rest := []) X hP hD hS hA (k_X6_isBeam l G cI cS cL  (nI b)) cq_X6_isBeam aw_987 ⟨Nat.le_of_ble_eq_true rfl, Nat.le_of_ble_eq_true rfl⟩ ([] : List Nat) (cs := []) rfl (by decide) (cs' := []) rfl rfl rfl hl.1 rfl (Nat.le_of_ble_eq_true rfl) dX6_move_8 ⟨Nat.zero_le _, Nat.zero_le _⟩ rfl (bs' := [mdC q refusal isShot states length at_ good runs did, rwC (q 1) cI 129 now, rwC (q 4) cI 774 book]) rfl (fun H locs hP hD hS => ?_)
    have hM_7 : ∀ (v_6 : Bool) (ls : Array Slot) (H : Heap) (locs : List Loc), v_6 = (if (f_X6_isBeam (nI b)) = true then true else false) → lv_has ls 4 [(0, .ref (q 0)), (1, .int (nI k)), (2, .int (nI b))] → va_P G classes [mdC q refusal isShot states length at_ good runs did, rwC (q 1) cI 129 now, rwC (q 4) cI 774 book].flatten H → va_D A [mdC q refusal isShot states length at_ good runs did, rwC (q 1) cI 129 now, rwC (q 4) cI 774 book].flatten → va_S A s.heap H locs → W p l e ({ frames := 3, cells := 0, slots := 0, locals := 65 } : Room) s m args below meth c H locs 0 0 QQ (F0 m 19 ls [.int (bI v_6)]) := by
      intro v_6 ls H locs e_v_6 hl hP hD hS
      subst e_v_6
      exact hM_10 (if (f_X6_isBeam (nI b)) = true then true else false) _ _ _ (if_pos c_1).symm (lv_sub hl [0, 1, 2] rfl) hP hD hS
    refine bv_ifeq hx hb (f_X6_isBeam (nI b)) 18 dX6_move_11 (by decide) (fun c_3 => ?_) (fun c_3 => ?_)
    · refine lv_iconst (v := 0) hx hb dX6_move_18 (by decide) ?_
      exact hM_7 false _ _ _ (if_neg c_3).symm (lv_sub hl [0, 1, 2] rfl) hP hD hS
    · refine lv_iconst (v := 1) hx hb dX6_move_14 (by decide) ?_
      refine lv_goto (tgt := 19) hx hb dX6_move_15 (by decide) ?_
      exact hM_7 true _ _ _ (if_pos c_3).symm (lv_sub hl [0, 1, 2] rfl) hP hD hS
set_option maxRecDepth 100000 in
set_option maxHeartbeats 4000000 in
theorem k_X6_move_R1 (l : Launch) (G : va_G) (cI cS cL : ClassId) (q : Nat → Nat) (refusal : Int32) (isShot : Bool) (states : Nat) (length : Nat) (at_ : Nat) (good : Bool) (runs : Bool) (did : Int32) (now : Nat → Int32) (book : Nat → Int32) (k : Int32) (b : Int32) (hrf : ¬ ((if (f_X6_isClock k) = true then (if (f_X6_isBeam b) = true then true else false) else false) = true)) : Ct l G (tyl cI cS cL) yX6_move cX6_move 4 (some (Jvm.ClassFile.FieldType.int)) 2 45 0 0 [.ref (q 0), .int k, .int b] [mdC q refusal isShot states length at_ good runs did, rwC (q 1) cI 129 now, rwC (q 4) cI 774 book].flatten f_X6_move_R1 (fun u => some (.int u.1)) (fun u => [mdC q u.2 isShot states length at_ good runs did, rwC (q 1) cI 129 now, rwC (q 4) cI 774 book].flatten) := by
  refine Ct.of (by decide +kernel) (Nat.le_of_ble_eq_true rfl) ?_
  intro p e s m args below meth c A ls hx hb hr hml hw hown hlocks hin hK hN hP hD hS hA hl
  have hown : s.vm.findClass RX6 = some m.cls := hown
  have X : Cx p s m args c cX6_move 4 RX6 G (tyl cI cS cL) := ⟨hx, hb, hml, hown, hw, hK, hN⟩
  have hP : va_P G classes [mdC q refusal isShot states length at_ good runs did, rwC (q 1) cI 129 now, rwC (q 4) cI 774 book].flatten s.heap := hP
  have hl : lv_has ls 4 [(0, .ref (q 0)), (1, .int k), (2, .int b)] := hl
  generalize hQQ : MQ below _ args s 0 0 A = QQ
  refine lv_iload_n hx hb dX6_move_0 rfl (lv_at hl 1 rfl) ?_
  refine ct_callS (As := [.int k]) (rest := []) X hP hD hS hA (k_X6_isClock l G cI cS cL  k) cq_X6_isClock aw_973 ⟨Nat.le_of_ble_eq_true rfl, Nat.le_of_ble_eq_true rfl⟩ ([] : List Nat) (cs := []) rfl (by decide) (cs' := []) rfl rfl rfl hl.1 rfl (Nat.le_of_ble_eq_true rfl) dX6_move_1 ⟨Nat.zero_le _, Nat.zero_le _⟩ rfl (bs' := [mdC q refusal isShot states length at_ good runs did, rwC (q 1) cI 129 now, rwC (q 4) cI 774 book]) rfl (fun H locs hP hD hS => ?_)
  have hM_10 : ∀ (v_9 : Bool) (ls : Array Slot) (H : Heap) (locs : List Loc), v_9 = (if (f_X6_isClock k) = true then (if (f_X6_isBeam b) = true then true else false) else false) → lv_has ls 4 [(0, .ref (q 0)), (1, .int k), (2, .int b)] → va_P G classes [mdC q refusal isShot states length at_ good runs did, rwC (q 1) cI 129 now, rwC (q 4) cI 774 book].flatten H → va_D A [mdC q refusal isShot states length at_ good runs did, rwC (q 1) cI 129 now, rwC (q 4) cI 774 book].flatten → va_S A s.heap H locs → W p l e ({ frames := 2, cells := 0, slots := 0, locals := 45 } : Room) s m args below meth c H locs 0 0 QQ (F0 m 19 ls [.int (bI v_9)]) := by
    intro v_9 ls H locs e_v_9 hl hP hD hS
    subst e_v_9
    refine lv_istore_n (lv' := [(3, .int (bI (if (f_X6_isClock k) = true then (if (f_X6_isBeam b) = true then true else false) else false))), (0, .ref (q 0)), (1, .int k), (2, .int b)]) hx hb dX6_move_19 rfl hl (by decide) rfl (fun ls hl => ?_)
    refine lv_aload_n hx hb dX6_move_20 rfl (lv_at hl 1 rfl) ?_
    refine lv_iload_n hx hb dX6_move_21 rfl (lv_at hl 0 rfl) ?_
    refine bv_ifne hx hb (if (f_X6_isClock k) = true then (if (f_X6_isBeam b) = true then true else false) else false) 29 dX6_move_22 (by decide) (fun c => absurd c hrf) (fun c_11 => ?_)
    refine lv_iconst (v := 1) hx hb dX6_move_25 (by decide) ?_
    refine lv_goto (tgt := 46) hx hb dX6_move_26 (by decide) ?_
    refine ct_callV (As := [.int (1 : Int32)]) (rest := []) X hP hD hS hA (k_X6_refused l G cI cS cL q refusal isShot states length at_ good runs did (1 : Int32)) cp_X6_refused aw_929 ⟨Nat.le_of_ble_eq_true rfl, Nat.le_of_ble_eq_true rfl⟩ [0] (cs := [mdC q refusal isShot states length at_ good runs did]) rfl (by decide) (cs' := [mdC q ((f_X6_refused (1 : Int32)).2) isShot states length at_ good runs did]) rfl rfl 4 rfl rfl (q0 := 0) rfl rfl hl.1 rfl (Nat.le_of_ble_eq_true rfl) dX6_move_46 ⟨Nat.zero_le _, Nat.zero_le _⟩ rfl (bs' := [mdC q ((f_X6_refused (1 : Int32)).2) isShot states length at_ good runs did, rwC (q 1) cI 129 now, rwC (q 4) cI 774 book]) rfl (fun H locs hP hD hS => ?_)
    refine bv_ifeq hx hb ((f_X6_refused (1 : Int32)).1) 54 dX6_move_49 (by decide) (fun c => absurd (by decide) c) (fun c_12 => ?_)
    refine lv_iconst (v := 0) hx hb dX6_move_52 (by decide) ?_
    rw [← hQQ]; exact W.iret hx hb hr (ct_end (F := f_X6_move_R1) (u := ((0 : Int32), (f_X6_refused (1 : Int32)).2)) (rf := (fun u => some (.int u.1))) (wf := (fun u => [mdC q u.2 isShot states length at_ good runs did, rwC (q 1) cI 129 now, rwC (q 4) cI 774 book].flatten)) rfl rfl hP hD hS) hS.2.2 dX6_move_53
  refine bv_ifeq hx hb (f_X6_isClock k) 18 dX6_move_4 (by decide) (fun c_1 => ?_) (fun c_1 => ?_)
  · refine lv_iconst (v := 0) hx hb dX6_move_18 (by decide) ?_
    exact hM_10 false _ _ _ (if_neg c_1).symm (lv_sub hl [0, 1, 2] rfl) hP hD hS
  · refine lv_iload_n hx hb dX6_move_7 rfl (lv_at hl 2 rfl) ?_
    refine ct_callS (As := [.int b]) (rest := []) X hP hD hS hA (k_X6_isBeam l G cI cS cL  b) cq_X6_isBeam aw_987 ⟨Nat.le_of_ble_eq_true rfl, Nat.le_of_ble_eq_true rfl⟩ ([] : List Nat) (cs := []) rfl (by decide) (cs' := []) rfl rfl rfl hl.1 rfl (Nat.le_of_ble_eq_true rfl) dX6_move_8 ⟨Nat.zero_le _, Nat.zero_le _⟩ rfl (bs' := [mdC q refusal isShot states length at_ good runs did, rwC (q 1) cI 129 now, rwC (q 4) cI 774 book]) rfl (fun H locs hP hD hS => ?_)
    have hM_7 : ∀ (v_6 : Bool) (ls : Array Slot) (H : Heap) (locs : List Loc), v_6 = (if (f_X6_isBeam b) = true then true else false) → lv_has ls 4 [(0, .ref (q 0)), (1, .int k), (2, .int b)] → va_P G classes [mdC q refusal isShot states length at_ good runs did, rwC (q 1) cI 129 now, rwC (q 4) cI 774 book].flatten H → va_D A [mdC q refusal isShot states length at_ good runs did, rwC (q 1) cI 129 now, rwC (q 4) cI 774 book].flatten → va_S A s.heap H locs → W p l e ({ frames := 2, cells := 0, slots := 0, locals := 45 } : Room) s m args below meth c H locs 0 0 QQ (F0 m 19 ls [.int (bI v_6)]) := by
      intro v_6 ls H locs e_v_6 hl hP hD hS
      subst e_v_6
      exact hM_10 (if (f_X6_isBeam b) = true then true else false) _ _ _ (if_pos c_1).symm (lv_sub hl [0, 1, 2] rfl) hP hD hS
    refine bv_ifeq hx hb (f_X6_isBeam b) 18 dX6_move_11 (by decide) (fun c_3 => ?_) (fun c_3 => ?_)
    · refine lv_iconst (v := 0) hx hb dX6_move_18 (by decide) ?_
      exact hM_7 false _ _ _ (if_neg c_3).symm (lv_sub hl [0, 1, 2] rfl) hP hD hS
    · refine lv_iconst (v := 1) hx hb dX6_move_14 (by decide) ?_
      refine lv_goto (tgt := 19) hx hb dX6_move_15 (by decide) ?_
      exact hM_7 true _ _ _ (if_pos c_3).symm (lv_sub hl [0, 1, 2] rfl) hP hD hS
set_option maxRecDepth 100000 in
set_option maxHeartbeats 4000000 in
theorem k_X6_move_R2 (l : Launch) (G : va_G) (cI cS cL : ClassId) (q : Nat → Nat) (refusal : Int32) (isShot : Bool) (states : Nat) (length : Nat) (at_ : Nat) (good : Bool) (runs : Bool) (did : Int32) (now : Nat → Int32) (book : Nat → Int32) (k : Nat) (b : Nat) (hk : k < 8) (hb3 : b < 3) (hrf : ((f_X6_refused (if (if (f_X6_isClock (nI k)) = true then (if (f_X6_isBeam (nI b)) = true then true else false) else false) = true then (if (f_X6_beamOf now k) = (nI b) then (2 : Int32) else (0 : Int32)) else (1 : Int32))).1) = true) : Ct l G (tyl cI cS cL) yX6_move cX6_move 4 (some (Jvm.ClassFile.FieldType.int)) 2 45 0 0 [.ref (q 0), .int (nI k), .int (nI b)] [mdC q refusal isShot states length at_ good runs did, rwC (q 1) cI 129 now, rwC (q 4) cI 774 book].flatten (f_X6_move_R2 now k b) (fun u => some (.int u.1)) (fun u => [mdC q u.2 isShot states length at_ good runs did, rwC (q 1) cI 129 now, rwC (q 4) cI 774 book].flatten) := by
  refine Ct.of (by decide +kernel) (Nat.le_of_ble_eq_true rfl) ?_
  intro p e s m args below meth c A ls hx hb hr hml hw hown hlocks hin hK hN hP hD hS hA hl
  have hown : s.vm.findClass RX6 = some m.cls := hown
  have X : Cx p s m args c cX6_move 4 RX6 G (tyl cI cS cL) := ⟨hx, hb, hml, hown, hw, hK, hN⟩
  have hP : va_P G classes [mdC q refusal isShot states length at_ good runs did, rwC (q 1) cI 129 now, rwC (q 4) cI 774 book].flatten s.heap := hP
  have hl : lv_has ls 4 [(0, .ref (q 0)), (1, .int (nI k)), (2, .int (nI b))] := hl
  generalize hQQ : MQ below _ args s 0 0 A = QQ
  refine lv_iload_n hx hb dX6_move_0 rfl (lv_at hl 1 rfl) ?_
  refine ct_callS (As := [.int (nI k)]) (rest := []) X hP hD hS hA (k_X6_isClock l G cI cS cL  (nI k)) cq_X6_isClock aw_973 ⟨Nat.le_of_ble_eq_true rfl, Nat.le_of_ble_eq_true rfl⟩ ([] : List Nat) (cs := []) rfl (by decide) (cs' := []) rfl rfl rfl hl.1 rfl (Nat.le_of_ble_eq_true rfl) dX6_move_1 ⟨Nat.zero_le _, Nat.zero_le _⟩ rfl (bs' := [mdC q refusal isShot states length at_ good runs did, rwC (q 1) cI 129 now, rwC (q 4) cI 774 book]) rfl (fun H locs hP hD hS => ?_)
  have hM_10 : ∀ (v_9 : Bool) (ls : Array Slot) (H : Heap) (locs : List Loc), v_9 = (if (f_X6_isClock (nI k)) = true then (if (f_X6_isBeam (nI b)) = true then true else false) else false) → lv_has ls 4 [(0, .ref (q 0)), (1, .int (nI k)), (2, .int (nI b))] → va_P G classes [mdC q refusal isShot states length at_ good runs did, rwC (q 1) cI 129 now, rwC (q 4) cI 774 book].flatten H → va_D A [mdC q refusal isShot states length at_ good runs did, rwC (q 1) cI 129 now, rwC (q 4) cI 774 book].flatten → va_S A s.heap H locs → W p l e ({ frames := 2, cells := 0, slots := 0, locals := 45 } : Room) s m args below meth c H locs 0 0 QQ (F0 m 19 ls [.int (bI v_9)]) := by
    intro v_9 ls H locs e_v_9 hl hP hD hS
    subst e_v_9
    refine lv_istore_n (lv' := [(3, .int (bI (if (f_X6_isClock (nI k)) = true then (if (f_X6_isBeam (nI b)) = true then true else false) else false))), (0, .ref (q 0)), (1, .int (nI k)), (2, .int (nI b))]) hx hb dX6_move_19 rfl hl (by decide) rfl (fun ls hl => ?_)
    refine lv_aload_n hx hb dX6_move_20 rfl (lv_at hl 1 rfl) ?_
    refine lv_iload_n hx hb dX6_move_21 rfl (lv_at hl 0 rfl) ?_
    have hM_20 : ∀ (v_19 : Int32) (ls : Array Slot) (H : Heap) (locs : List Loc), v_19 = (if (if (f_X6_isClock (nI k)) = true then (if (f_X6_isBeam (nI b)) = true then true else false) else false) = true then (if (f_X6_beamOf now k) = (nI b) then (2 : Int32) else (0 : Int32)) else (1 : Int32)) → lv_has ls 4 [(0, .ref (q 0)), (1, .int (nI k)), (2, .int (nI b))] → va_P G classes [mdC q refusal isShot states length at_ good runs did, rwC (q 1) cI 129 now, rwC (q 4) cI 774 book].flatten H → va_D A [mdC q refusal isShot states length at_ good runs did, rwC (q 1) cI 129 now, rwC (q 4) cI 774 book].flatten → va_S A s.heap H locs → W p l e ({ frames := 2, cells := 0, slots := 0, locals := 45 } : Room) s m args below meth c H locs 0 0 QQ (F0 m 46 ls [.int v_19, .ref (q 0)]) := by
      intro v_19 ls H locs e_v_19 hl hP hD hS
      subst e_v_19
      refine ct_callV (As := [.int (if (if (f_X6_isClock (nI k)) = true then (if (f_X6_isBeam (nI b)) = true then true else false) else false) = true then (if (f_X6_beamOf now k) = (nI b) then (2 : Int32) else (0 : Int32)) else (1 : Int32))]) (rest := []) X hP hD hS hA (k_X6_refused l G cI cS cL q refusal isShot states length at_ good runs did (if (if (f_X6_isClock (nI k)) = true then (if (f_X6_isBeam (nI b)) = true then true else false) else false) = true then (if (f_X6_beamOf now k) = (nI b) then (2 : Int32) else (0 : Int32)) else (1 : Int32))) cp_X6_refused aw_929 ⟨Nat.le_of_ble_eq_true rfl, Nat.le_of_ble_eq_true rfl⟩ [0] (cs := [mdC q refusal isShot states length at_ good runs did]) rfl (by decide) (cs' := [mdC q ((f_X6_refused (if (if (f_X6_isClock (nI k)) = true then (if (f_X6_isBeam (nI b)) = true then true else false) else false) = true then (if (f_X6_beamOf now k) = (nI b) then (2 : Int32) else (0 : Int32)) else (1 : Int32))).2) isShot states length at_ good runs did]) rfl rfl 4 rfl rfl (q0 := 0) rfl rfl hl.1 rfl (Nat.le_of_ble_eq_true rfl) dX6_move_46 ⟨Nat.zero_le _, Nat.zero_le _⟩ rfl (bs' := [mdC q ((f_X6_refused (if (if (f_X6_isClock (nI k)) = true then (if (f_X6_isBeam (nI b)) = true then true else false) else false) = true then (if (f_X6_beamOf now k) = (nI b) then (2 : Int32) else (0 : Int32)) else (1 : Int32))).2) isShot states length at_ good runs did, rwC (q 1) cI 129 now, rwC (q 4) cI 774 book]) rfl (fun H locs hP hD hS => ?_)
      refine bv_ifeq hx hb ((f_X6_refused (if (if (f_X6_isClock (nI k)) = true then (if (f_X6_isBeam (nI b)) = true then true else false) else false) = true then (if (f_X6_beamOf now k) = (nI b) then (2 : Int32) else (0 : Int32)) else (1 : Int32))).1) 54 dX6_move_49 (by decide) (fun c => absurd hrf c) (fun c_21 => ?_)
      refine lv_iconst (v := 0) hx hb dX6_move_52 (by decide) ?_
      rw [← hQQ]; exact W.iret hx hb hr (ct_end (F := (f_X6_move_R2 now k b)) (u := ((0 : Int32), (f_X6_refused (if (if (f_X6_isClock (nI k)) = true then (if (f_X6_isBeam (nI b)) = true then true else false) else false) = true then (if (f_X6_beamOf now k) = (nI b) then (2 : Int32) else (0 : Int32)) else (1 : Int32))).2)) (rf := (fun u => some (.int u.1))) (wf := (fun u => [mdC q u.2 isShot states length at_ good runs did, rwC (q 1) cI 129 now, rwC (q 4) cI 774 book].flatten)) rfl rfl hP hD hS) hS.2.2 dX6_move_53
    refine bv_ifne hx hb (if (f_X6_isClock (nI k)) = true then (if (f_X6_isBeam (nI b)) = true then true else false) else false) 29 dX6_move_22 (by decide) (fun c_11 => ?_) (fun c_11 => ?_)
    · refine lv_aload_n hx hb dX6_move_29 rfl (lv_at hl 1 rfl) ?_
      refine va_get (D := G) (ci := 4) (C := RX6) (T := TX6) (N := 15) hx hb hw in_X6 hown hK hP 0 rfl rfl 1 (by decide) (hw _ aw_872) (fun _ h9 => h9) rfl dX6_move_30 ?_
      refine lv_iload_n hx hb dX6_move_33 rfl (lv_at hl 2 rfl) ?_
      refine ct_callS (As := [.ref (q 1), .int (nI k)]) (rest := [.ref (q 0)]) X hP hD hS hA (k_X6_beamOf l G cI cS cL (q 1) now k (by omega)) cq_X6_beamOf aw_954 ⟨Nat.le_of_ble_eq_true rfl, Nat.le_of_ble_eq_true rfl⟩ [1] (cs := [rwC (q 1) cI 129 now]) rfl (by decide) (cs' := [rwC (q 1) cI 129 now]) rfl rfl rfl hl.1 rfl (Nat.le_of_ble_eq_true rfl) dX6_move_34 ⟨Nat.zero_le _, Nat.zero_le _⟩ rfl (bs' := [mdC q refusal isShot states length at_ good runs did, rwC (q 1) cI 129 now, rwC (q 4) cI 774 book]) rfl (fun H locs hP hD hS => ?_)
      refine lv_iload_n hx hb dX6_move_37 rfl (lv_at hl 3 rfl) ?_
      have hM_16 : ∀ (v_15 : Int32) (ls : Array Slot) (H : Heap) (locs : List Loc), v_15 = (if (f_X6_beamOf now k) = (nI b) then (2 : Int32) else (0 : Int32)) → lv_has ls 4 [(0, .ref (q 0)), (1, .int (nI k)), (2, .int (nI b))] → va_P G classes [mdC q refusal isShot states length at_ good runs did, rwC (q 1) cI 129 now, rwC (q 4) cI 774 book].flatten H → va_D A [mdC q refusal isShot states length at_ good runs did, rwC (q 1) cI 129 now, rwC (q 4) cI 774 book].flatten → va_S A s.heap H locs → W p l e ({ frames := 2, cells := 0, slots := 0, locals := 45 } : Room) s m args below meth c H locs 0 0 QQ (F0 m 46 ls [.int v_15, .ref (q 0)]) := by
        intro v_15 ls H locs e_v_15 hl hP hD hS
        subst e_v_15
        exact hM_20 (if (f_X6_beamOf now k) = (nI b) then (2 : Int32) else (0 : Int32)) _ _ _ (if_pos c_11).symm (lv_sub hl [0, 1, 2] rfl) hP hD hS
      refine iv_ne hx hb 45 dX6_move_38 (by decide) (fun c_12 => ?_) (fun c_12 => ?_)
      · refine lv_iconst (v := 0) hx hb dX6_move_45 (by decide) ?_
        exact hM_16 (0 : Int32) _ _ _ (if_neg c_12).symm (lv_sub hl [1, 2, 3] rfl) hP hD hS
      · refine lv_iconst (v := 2) hx hb dX6_move_41 (by decide) ?_
        refine lv_goto (tgt := 46) hx hb dX6_move_42 (by decide) ?_
        exact hM_16 (2 : Int32) _ _ _ (if_pos c_12).symm (lv_sub hl [1, 2, 3] rfl) hP hD hS
    · refine lv_iconst (v := 1) hx hb dX6_move_25 (by decide) ?_
      refine lv_goto (tgt := 46) hx hb dX6_move_26 (by decide) ?_
      exact hM_20 (1 : Int32) _ _ _ (if_neg c_11).symm (lv_sub hl [1, 2, 3] rfl) hP hD hS
  refine bv_ifeq hx hb (f_X6_isClock (nI k)) 18 dX6_move_4 (by decide) (fun c_1 => ?_) (fun c_1 => ?_)
  · refine lv_iconst (v := 0) hx hb dX6_move_18 (by decide) ?_
    exact hM_10 false _ _ _ (if_neg c_1).symm (lv_sub hl [0, 1, 2] rfl) hP hD hS
  · refine lv_iload_n hx hb dX6_move_7 rfl (lv_at hl 2 rfl) ?_
    refine ct_callS (As := [.int (nI b)]) (rest := []) X hP hD hS hA (k_X6_isBeam l G cI cS cL  (nI b)) cq_X6_isBeam aw_987 ⟨Nat.le_of_ble_eq_true rfl, Nat.le_of_ble_eq_true rfl⟩ ([] : List Nat) (cs := []) rfl (by decide) (cs' := []) rfl rfl rfl hl.1 rfl (Nat.le_of_ble_eq_true rfl) dX6_move_8 ⟨Nat.zero_le _, Nat.zero_le _⟩ rfl (bs' := [mdC q refusal isShot states length at_ good runs did, rwC (q 1) cI 129 now, rwC (q 4) cI 774 book]) rfl (fun H locs hP hD hS => ?_)
    have hM_7 : ∀ (v_6 : Bool) (ls : Array Slot) (H : Heap) (locs : List Loc), v_6 = (if (f_X6_isBeam (nI b)) = true then true else false) → lv_has ls 4 [(0, .ref (q 0)), (1, .int (nI k)), (2, .int (nI b))] → va_P G classes [mdC q refusal isShot states length at_ good runs did, rwC (q 1) cI 129 now, rwC (q 4) cI 774 book].flatten H → va_D A [mdC q refusal isShot states length at_ good runs did, rwC (q 1) cI 129 now, rwC (q 4) cI 774 book].flatten → va_S A s.heap H locs → W p l e ({ frames := 2, cells := 0, slots := 0, locals := 45 } : Room) s m args below meth c H locs 0 0 QQ (F0 m 19 ls [.int (bI v_6)]) := by
      intro v_6 ls H locs e_v_6 hl hP hD hS
      subst e_v_6
      exact hM_10 (if (f_X6_isBeam (nI b)) = true then true else false) _ _ _ (if_pos c_1).symm (lv_sub hl [0, 1, 2] rfl) hP hD hS
    refine bv_ifeq hx hb (f_X6_isBeam (nI b)) 18 dX6_move_11 (by decide) (fun c_3 => ?_) (fun c_3 => ?_)
    · refine lv_iconst (v := 0) hx hb dX6_move_18 (by decide) ?_
      exact hM_7 false _ _ _ (if_neg c_3).symm (lv_sub hl [0, 1, 2] rfl) hP hD hS
    · refine lv_iconst (v := 1) hx hb dX6_move_14 (by decide) ?_
      refine lv_goto (tgt := 19) hx hb dX6_move_15 (by decide) ?_
      exact hM_7 true _ _ _ (if_pos c_3).symm (lv_sub hl [0, 1, 2] rfl) hP hD hS
set_option maxRecDepth 100000 in
set_option maxHeartbeats 4000000 in
theorem k_X6_bestGive (l : Launch) (G : va_G) (cI cS cL : ClassId) (q : Nat → Nat) (refusal : Int32) (isShot : Bool) (states : Nat) (length : Nat) (at_ : Nat) (good : Bool) (runs : Bool) (did : Int32) (now : Nat → Int32) (trial : Nat → Int32) (pulls : Nat → Int32) (group : Nat → Int32) (b : Nat) (hb3 : b < 3) (hI : InvB now) (hrf : ¬ (((f_X6_refused (bI (if (f_X6_isBeam (nI b)) = true then false else true))).1) = true)) : Ct l G (tyl cI cS cL) yX6_bestGive cX6_bestGive 8 (some (Jvm.ClassFile.FieldType.int)) 5 116 0 0 [.ref (q 0), .int (nI b)] [mdC q refusal isShot states length at_ good runs did, rwC (q 1) cI 129 now, rwC (q 2) cI 129 trial, rwC (q 5) cI 8 pulls, rwC (q 6) cI 8 group].flatten (f_X6_bestGive now trial pulls group b) (fun u => some (.int u.1)) (fun u => [mdC q u.2.1 isShot states length at_ good runs did, rwC (q 1) cI 129 now, rwC (q 2) cI 129 u.2.2.1, rwC (q 5) cI 8 u.2.2.2.1, rwC (q 6) cI 8 u.2.2.2.2].flatten) := by
  refine Ct.of (by decide +kernel) (Nat.le_of_ble_eq_true rfl) ?_
  intro p e s m args below meth c A ls hx hb hr hml hw hown hlocks hin hK hN hP hD hS hA hl
  have hown : s.vm.findClass RX6 = some m.cls := hown
  have X : Cx p s m args c cX6_bestGive 8 RX6 G (tyl cI cS cL) := ⟨hx, hb, hml, hown, hw, hK, hN⟩
  have hP : va_P G classes [mdC q refusal isShot states length at_ good runs did, rwC (q 1) cI 129 now, rwC (q 2) cI 129 trial, rwC (q 5) cI 8 pulls, rwC (q 6) cI 8 group].flatten s.heap := hP
  have hl : lv_has ls 8 [(0, .ref (q 0)), (1, .int (nI b))] := hl
  generalize hQQ : MQ below _ args s 0 0 A = QQ
  refine lv_aload_n hx hb dX6_bestGive_0 rfl (lv_at hl 0 rfl) ?_
  refine lv_iload_n hx hb dX6_bestGive_1 rfl (lv_at hl 1 rfl) ?_
  refine ct_callS (As := [.int (nI b)]) (rest := [.ref (q 0)]) X hP hD hS hA (k_X6_isBeam l G cI cS cL  (nI b)) cq_X6_isBeam aw_987 ⟨Nat.le_of_ble_eq_true rfl, Nat.le_of_ble_eq_true rfl⟩ ([] : List Nat) (cs := []) rfl (by decide) (cs' := []) rfl rfl rfl hl.1 rfl (Nat.le_of_ble_eq_true rfl) dX6_bestGive_2 ⟨Nat.zero_le _, Nat.zero_le _⟩ rfl (bs' := [mdC q refusal isShot states length at_ good runs did, rwC (q 1) cI 129 now, rwC (q 2) cI 129 trial, rwC (q 5) cI 8 pulls, rwC (q 6) cI 8 group]) rfl (fun H locs hP hD hS => ?_)
  have hM_5 : ∀ (v_4 : Bool) (ls : Array Slot) (H : Heap) (locs : List Loc), v_4 = (if (f_X6_isBeam (nI b)) = true then false else true) → lv_has ls 8 [(0, .ref (q 0)), (1, .int (nI b))] → va_P G classes [mdC q refusal isShot states length at_ good runs did, rwC (q 1) cI 129 now, rwC (q 2) cI 129 trial, rwC (q 5) cI 8 pulls, rwC (q 6) cI 8 group].flatten H → va_D A [mdC q refusal isShot states length at_ good runs did, rwC (q 1) cI 129 now, rwC (q 2) cI 129 trial, rwC (q 5) cI 8 pulls, rwC (q 6) cI 8 group].flatten → va_S A s.heap H locs → W p l e ({ frames := 5, cells := 0, slots := 0, locals := 116 } : Room) s m args below meth c H locs 0 0 QQ (F0 m 13 ls [.int (bI v_4), .ref (q 0)]) := by
    intro v_4 ls H locs e_v_4 hl hP hD hS
    subst e_v_4
    refine ct_callV (As := [.int (bI (if (f_X6_isBeam (nI b)) = true then false else true))]) (rest := []) X hP hD hS hA (k_X6_refused l G cI cS cL q refusal isShot states length at_ good runs did (bI (if (f_X6_isBeam (nI b)) = true then false else true))) cp_X6_refused aw_929 ⟨Nat.le_of_ble_eq_true rfl, Nat.le_of_ble_eq_true rfl⟩ [0] (cs := [mdC q refusal isShot states length at_ good runs did]) rfl (by decide) (cs' := [mdC q ((f_X6_refused (bI (if (f_X6_isBeam (nI b)) = true then false else true))).2) isShot states length at_ good runs did]) rfl rfl 4 rfl rfl (q0 := 0) rfl rfl hl.1 rfl (Nat.le_of_ble_eq_true rfl) dX6_bestGive_13 ⟨Nat.zero_le _, Nat.zero_le _⟩ rfl (bs' := [mdC q ((f_X6_refused (bI (if (f_X6_isBeam (nI b)) = true then false else true))).2) isShot states length at_ good runs did, rwC (q 1) cI 129 now, rwC (q 2) cI 129 trial, rwC (q 5) cI 8 pulls, rwC (q 6) cI 8 group]) rfl (fun H locs hP hD hS => ?_)
    refine bv_ifeq hx hb ((f_X6_refused (bI (if (f_X6_isBeam (nI b)) = true then false else true))).1) 21 dX6_bestGive_16 (by decide) (fun c_6 => ?_) (fun c => absurd c hrf)
    refine lv_iconst (v := -1) hx hb dX6_bestGive_21 (by decide) ?_
    refine lv_istore_n (lv' := [(2, .int (-1 : Int32)), (0, .ref (q 0)), (1, .int (nI b))]) hx hb dX6_bestGive_22 rfl hl (by decide) rfl (fun ls hl => ?_)
    refine lv_iconst (v := 0) hx hb dX6_bestGive_23 (by decide) ?_
    refine lv_istore_n (lv' := [(3, .int (0 : Int32)), (2, .int (-1 : Int32)), (0, .ref (q 0)), (1, .int (nI b))]) hx hb dX6_bestGive_24 rfl hl (by decide) rfl (fun ls hl => ?_)
    refine lv_iconst (v := 0) hx hb dX6_bestGive_25 (by decide) ?_
    refine lv_istore (lv' := [(4, .int (0 : Int32)), (3, .int (0 : Int32)), (2, .int (-1 : Int32)), (0, .ref (q 0)), (1, .int (nI b))]) hx hb dX6_bestGive_26 hl (by decide) rfl (fun ls hl => ?_)
    refine it_loop (f := (L_X6_bestGive_28 now b)) 21 (fun (i28 : Nat) (s28 : Int32 × Int32 × (Nat → Int32) × (Nat → Int32) × (Nat → Int32)) => ∀ (ls : Array Slot) (H : Heap) (locs : List Loc), lv_has ls 8 [(4, .int (nI i28)), (3, .int s28.1), (2, .int s28.2.1), (0, .ref (q 0)), (1, .int (nI b))] → va_P G classes [mdC q ((f_X6_refused (bI (if (f_X6_isBeam (nI b)) = true then false else true))).2) isShot states length at_ good runs did, rwC (q 1) cI 129 now, rwC (q 2) cI 129 s28.2.2.1, rwC (q 5) cI 8 s28.2.2.2.1, rwC (q 6) cI 8 s28.2.2.2.2].flatten H → va_D A [mdC q ((f_X6_refused (bI (if (f_X6_isBeam (nI b)) = true then false else true))).2) isShot states length at_ good runs did, rwC (q 1) cI 129 now, rwC (q 2) cI 129 s28.2.2.1, rwC (q 5) cI 8 s28.2.2.2.1, rwC (q 6) cI 8 s28.2.2.2.2].flatten → va_S A s.heap H locs → W p l e ({ frames := 5, cells := 0, slots := 0, locals := 116 } : Room) s m args below meth c H locs 0 0 QQ (F0 m 28 ls [])) (fun i28 s28 hi28 ih => ?_) 21 0 ((0 : Int32), (-1 : Int32), trial, pulls, group) (by omega) ?_ ls _ _ (lv_sub hl [0, 1, 2, 3, 4] rfl) hP hD hS
    · intro ls H locs hl hP hD hS
      refine lv_iload hx hb dX6_bestGive_28 (lv_at hl 0 rfl) ?_
      refine lv_bipush (v := 20) hx hb dX6_bestGive_30 (by decide) ?_
      refine nv_gt hx hb i28 20 126 (by omega) (by omega) dX6_bestGive_32 (by decide) (fun hc => absurd hc (by omega)) (fun _ => ?_)
      refine lv_aload_n hx hb dX6_bestGive_35 rfl (lv_at hl 3 rfl) ?_
      refine va_get (D := G) (ci := 4) (C := RX6) (T := TX6) (N := 15) hx hb hw in_X6 hown hK hP 0 rfl rfl 1 (by decide) (hw _ aw_872) (fun _ h9 => h9) rfl dX6_bestGive_36 ?_
      refine lv_aload_n hx hb dX6_bestGive_39 rfl (lv_at hl 3 rfl) ?_
      refine va_get (D := G) (ci := 4) (C := RX6) (T := TX6) (N := 15) hx hb hw in_X6 hown hK hP 0 rfl rfl 2 (by decide) (hw _ aw_873) (fun _ h9 => h9) rfl dX6_bestGive_40 ?_
      refine ct_callS (As := [.ref (q 1), .ref (q 2)]) (rest := []) X hP hD hS hA (k_X6_copy l G cI cS cL (q 1) (q 2) now s28.2.2.1) cq_X6_copy aw_1074 ⟨Nat.le_of_ble_eq_true rfl, Nat.le_of_ble_eq_true rfl⟩ [1, 2] (cs := [rwC (q 1) cI 129 now, rwC (q 2) cI 129 s28.2.2.1]) rfl (by decide) (cs' := [rwC (q 1) cI 129 now, rwC (q 2) cI 129 now]) rfl rfl rfl hl.1 rfl (Nat.le_of_ble_eq_true rfl) dX6_bestGive_43 ⟨Nat.zero_le _, Nat.zero_le _⟩ rfl (bs' := [mdC q ((f_X6_refused (bI (if (f_X6_isBeam (nI b)) = true then false else true))).2) isShot states length at_ good runs did, rwC (q 1) cI 129 now, rwC (q 2) cI 129 now, rwC (q 5) cI 8 s28.2.2.2.1, rwC (q 6) cI 8 s28.2.2.2.2]) rfl (fun H locs hP hD hS => ?_)
      refine lv_aload_n hx hb dX6_bestGive_46 rfl (lv_at hl 3 rfl) ?_
      refine va_get (D := G) (ci := 4) (C := RX6) (T := TX6) (N := 15) hx hb hw in_X6 hown hK hP 0 rfl rfl 2 (by decide) (hw _ aw_873) (fun _ h9 => h9) rfl dX6_bestGive_47 ?_
      refine lv_iconst (v := 0) hx hb dX6_bestGive_50 (by decide) ?_
      refine lv_iload_n hx hb dX6_bestGive_51 rfl (lv_at hl 4 rfl) ?_
      refine nv_iadd hx hb 0 b dX6_bestGive_52 ?_
      refine lv_iload hx hb dX6_bestGive_53 (lv_at hl 0 rfl) ?_
      refine nv_iast hx hb hK hP hD hS 2 0 rfl rfl (0 + b) (by omega) (by decide) dX6_bestGive_55 (ws' := [mdC q ((f_X6_refused (bI (if (f_X6_isBeam (nI b)) = true then false else true))).2) isShot states length at_ good runs did, rwC (q 1) cI 129 now, rwC (q 2) cI 129 (upd now (0 + b) (nI i28)), rwC (q 5) cI 8 s28.2.2.2.1, rwC (q 6) cI 8 s28.2.2.2.2].flatten) rfl (fun H locs hP hD hS => ?_)
      refine lv_aload_n hx hb dX6_bestGive_56 rfl (lv_at hl 3 rfl) ?_
      refine lv_aload_n hx hb dX6_bestGive_57 rfl (lv_at hl 3 rfl) ?_
      refine va_get (D := G) (ci := 4) (C := RX6) (T := TX6) (N := 15) hx hb hw in_X6 hown hK hP 0 rfl rfl 2 (by decide) (hw _ aw_873) (fun _ h9 => h9) rfl dX6_bestGive_58 ?_
      refine lv_bipush (v := 100) hx hb dX6_bestGive_61 (by decide) ?_
      refine ct_callV (As := [.ref (q 2), .int (100 : Int32)]) (rest := []) X hP hD hS hA (k_X6_goTicks l G cI cS cL q (q 2) ((f_X6_refused (bI (if (f_X6_isBeam (nI b)) = true then false else true))).2) isShot states length at_ good runs did s28.2.2.2.1 (upd now (0 + b) (nI i28)) (100 : Int32) (InvB_give hI (by omega) _)) cp_X6_goTicks aw_937 ⟨Nat.le_of_ble_eq_true rfl, Nat.le_of_ble_eq_true rfl⟩ [0, 3, 2] (cs := [mdC q ((f_X6_refused (bI (if (f_X6_isBeam (nI b)) = true then false else true))).2) isShot states length at_ good runs did, rwC (q 5) cI 8 s28.2.2.2.1, rwC (q 2) cI 129 (upd now (0 + b) (nI i28))]) rfl (by decide) (cs' := [mdC q ((f_X6_refused (bI (if (f_X6_isBeam (nI b)) = true then false else true))).2) isShot states length at_ good runs did, rwC (q 5) cI 8 ((f_X6_goTicks s28.2.2.2.1 (upd now (0 + b) (nI i28)) (100 : Int32)).2.1), rwC (q 2) cI 129 ((f_X6_goTicks s28.2.2.2.1 (upd now (0 + b) (nI i28)) (100 : Int32)).2.2)]) rfl rfl 4 rfl rfl (q0 := 0) rfl rfl hl.1 rfl (Nat.le_of_ble_eq_true rfl) dX6_bestGive_63 ⟨Nat.zero_le _, Nat.zero_le _⟩ rfl (bs' := [mdC q ((f_X6_refused (bI (if (f_X6_isBeam (nI b)) = true then false else true))).2) isShot states length at_ good runs did, rwC (q 1) cI 129 now, rwC (q 2) cI 129 ((f_X6_goTicks s28.2.2.2.1 (upd now (0 + b) (nI i28)) (100 : Int32)).2.2), rwC (q 5) cI 8 ((f_X6_goTicks s28.2.2.2.1 (upd now (0 + b) (nI i28)) (100 : Int32)).2.1), rwC (q 6) cI 8 s28.2.2.2.2]) rfl (fun H locs hP hD hS => ?_)
      refine lv_istore (lv' := [(5, .int ((f_X6_goTicks s28.2.2.2.1 (upd now (0 + b) (nI i28)) (100 : Int32)).1)), (4, .int (nI i28)), (3, .int s28.1), (2, .int s28.2.1), (0, .ref (q 0)), (1, .int (nI b))]) hx hb dX6_bestGive_66 hl (by decide) rfl (fun ls hl => ?_)
      refine lv_aload_n hx hb dX6_bestGive_68 rfl (lv_at hl 4 rfl) ?_
      refine lv_aload_n hx hb dX6_bestGive_69 rfl (lv_at hl 4 rfl) ?_
      refine va_get (D := G) (ci := 4) (C := RX6) (T := TX6) (N := 15) hx hb hw in_X6 hown hK hP 0 rfl rfl 2 (by decide) (hw _ aw_873) (fun _ h9 => h9) rfl dX6_bestGive_70 ?_
      refine ct_callV (As := [.ref (q 2)]) (rest := []) X hP hD hS hA (k_X6_groups l G cI cS cL q (q 2) ((f_X6_refused (bI (if (f_X6_isBeam (nI b)) = true then false else true))).2) isShot states length at_ good runs did s28.2.2.2.2 ((f_X6_goTicks s28.2.2.2.1 (upd now (0 + b) (nI i28)) (100 : Int32)).2.2)) cp_X6_groups aw_1153 ⟨Nat.le_of_ble_eq_true rfl, Nat.le_of_ble_eq_true rfl⟩ [0, 4, 2] (cs := [mdC q ((f_X6_refused (bI (if (f_X6_isBeam (nI b)) = true then false else true))).2) isShot states length at_ good runs did, rwC (q 6) cI 8 s28.2.2.2.2, rwC (q 2) cI 129 ((f_X6_goTicks s28.2.2.2.1 (upd now (0 + b) (nI i28)) (100 : Int32)).2.2)]) rfl (by decide) (cs' := [mdC q ((f_X6_refused (bI (if (f_X6_isBeam (nI b)) = true then false else true))).2) isShot states length at_ good runs did, rwC (q 6) cI 8 ((f_X6_groups s28.2.2.2.2 ((f_X6_goTicks s28.2.2.2.1 (upd now (0 + b) (nI i28)) (100 : Int32)).2.2)).2), rwC (q 2) cI 129 ((f_X6_goTicks s28.2.2.2.1 (upd now (0 + b) (nI i28)) (100 : Int32)).2.2)]) rfl rfl 4 rfl rfl (q0 := 0) rfl rfl hl.1 rfl (Nat.le_of_ble_eq_true rfl) dX6_bestGive_73 ⟨Nat.zero_le _, Nat.zero_le _⟩ rfl (bs' := [mdC q ((f_X6_refused (bI (if (f_X6_isBeam (nI b)) = true then false else true))).2) isShot states length at_ good runs did, rwC (q 1) cI 129 now, rwC (q 2) cI 129 ((f_X6_goTicks s28.2.2.2.1 (upd now (0 + b) (nI i28)) (100 : Int32)).2.2), rwC (q 5) cI 8 ((f_X6_goTicks s28.2.2.2.1 (upd now (0 + b) (nI i28)) (100 : Int32)).2.1), rwC (q 6) cI 8 ((f_X6_groups s28.2.2.2.2 ((f_X6_goTicks s28.2.2.2.1 (upd now (0 + b) (nI i28)) (100 : Int32)).2.2)).2)]) rfl (fun H locs hP hD hS => ?_)
      refine lv_istore (lv' := [(6, .int ((f_X6_groups s28.2.2.2.2 ((f_X6_goTicks s28.2.2.2.1 (upd now (0 + b) (nI i28)) (100 : Int32)).2.2)).1)), (5, .int ((f_X6_goTicks s28.2.2.2.1 (upd now (0 + b) (nI i28)) (100 : Int32)).1)), (4, .int (nI i28)), (3, .int s28.1), (2, .int s28.2.1), (0, .ref (q 0)), (1, .int (nI b))]) hx hb dX6_bestGive_76 hl (by decide) rfl (fun ls hl => ?_)
      refine lv_iload_n hx hb dX6_bestGive_78 rfl (lv_at hl 4 rfl) ?_
      refine lv_iconst (v := -1) hx hb dX6_bestGive_79 (by decide) ?_
      have hM_18 : ∀ (v_17 : Bool) (ls : Array Slot) (H : Heap) (locs : List Loc), v_17 = (if s28.2.1 = (-1 : Int32) then true else (if s28.1 ≤ (f_X6_groups s28.2.2.2.2 ((f_X6_goTicks s28.2.2.2.1 (upd now (0 + b) (nI i28)) (100 : Int32)).2.2)).1 then false else true)) → lv_has ls 8 [(6, .int ((f_X6_groups s28.2.2.2.2 ((f_X6_goTicks s28.2.2.2.1 (upd now (0 + b) (nI i28)) (100 : Int32)).2.2)).1)), (4, .int (nI i28)), (3, .int s28.1), (2, .int s28.2.1), (0, .ref (q 0)), (1, .int (nI b))] → va_P G classes [mdC q ((f_X6_refused (bI (if (f_X6_isBeam (nI b)) = true then false else true))).2) isShot states length at_ good runs did, rwC (q 1) cI 129 now, rwC (q 2) cI 129 ((f_X6_goTicks s28.2.2.2.1 (upd now (0 + b) (nI i28)) (100 : Int32)).2.2), rwC (q 5) cI 8 ((f_X6_goTicks s28.2.2.2.1 (upd now (0 + b) (nI i28)) (100 : Int32)).2.1), rwC (q 6) cI 8 ((f_X6_groups s28.2.2.2.2 ((f_X6_goTicks s28.2.2.2.1 (upd now (0 + b) (nI i28)) (100 : Int32)).2.2)).2)].flatten H → va_D A [mdC q ((f_X6_refused (bI (if (f_X6_isBeam (nI b)) = true then false else true))).2) isShot states length at_ good runs did, rwC (q 1) cI 129 now, rwC (q 2) cI 129 ((f_X6_goTicks s28.2.2.2.1 (upd now (0 + b) (nI i28)) (100 : Int32)).2.2), rwC (q 5) cI 8 ((f_X6_goTicks s28.2.2.2.1 (upd now (0 + b) (nI i28)) (100 : Int32)).2.1), rwC (q 6) cI 8 ((f_X6_groups s28.2.2.2.2 ((f_X6_goTicks s28.2.2.2.1 (upd now (0 + b) (nI i28)) (100 : Int32)).2.2)).2)].flatten → va_S A s.heap H locs → W p l e ({ frames := 5, cells := 0, slots := 0, locals := 116 } : Room) s m args below meth c H locs 0 0 QQ (F0 m 94 ls [.int (bI v_17)]) := by
        intro v_17 ls H locs e_v_17 hl hP hD hS
        subst e_v_17
        refine lv_istore (lv' := [(7, .int (bI (if s28.2.1 = (-1 : Int32) then true else (if s28.1 ≤ (f_X6_groups s28.2.2.2.2 ((f_X6_goTicks s28.2.2.2.1 (upd now (0 + b) (nI i28)) (100 : Int32)).2.2)).1 then false else true)))), (6, .int ((f_X6_groups s28.2.2.2.2 ((f_X6_goTicks s28.2.2.2.1 (upd now (0 + b) (nI i28)) (100 : Int32)).2.2)).1)), (4, .int (nI i28)), (3, .int s28.1), (2, .int s28.2.1), (0, .ref (q 0)), (1, .int (nI b))]) hx hb dX6_bestGive_94 hl (by decide) rfl (fun ls hl => ?_)
        refine lv_iload hx hb dX6_bestGive_96 (lv_at hl 0 rfl) ?_
        have hM_23 : ∀ (v_22 : Int32) (ls : Array Slot) (H : Heap) (locs : List Loc), v_22 = (if (if s28.2.1 = (-1 : Int32) then true else (if s28.1 ≤ (f_X6_groups s28.2.2.2.2 ((f_X6_goTicks s28.2.2.2.1 (upd now (0 + b) (nI i28)) (100 : Int32)).2.2)).1 then false else true)) = true then (nI i28) else s28.2.1) → lv_has ls 8 [(7, .int (bI (if s28.2.1 = (-1 : Int32) then true else (if s28.1 ≤ (f_X6_groups s28.2.2.2.2 ((f_X6_goTicks s28.2.2.2.1 (upd now (0 + b) (nI i28)) (100 : Int32)).2.2)).1 then false else true)))), (6, .int ((f_X6_groups s28.2.2.2.2 ((f_X6_goTicks s28.2.2.2.1 (upd now (0 + b) (nI i28)) (100 : Int32)).2.2)).1)), (4, .int (nI i28)), (3, .int s28.1), (0, .ref (q 0)), (1, .int (nI b))] → va_P G classes [mdC q ((f_X6_refused (bI (if (f_X6_isBeam (nI b)) = true then false else true))).2) isShot states length at_ good runs did, rwC (q 1) cI 129 now, rwC (q 2) cI 129 ((f_X6_goTicks s28.2.2.2.1 (upd now (0 + b) (nI i28)) (100 : Int32)).2.2), rwC (q 5) cI 8 ((f_X6_goTicks s28.2.2.2.1 (upd now (0 + b) (nI i28)) (100 : Int32)).2.1), rwC (q 6) cI 8 ((f_X6_groups s28.2.2.2.2 ((f_X6_goTicks s28.2.2.2.1 (upd now (0 + b) (nI i28)) (100 : Int32)).2.2)).2)].flatten H → va_D A [mdC q ((f_X6_refused (bI (if (f_X6_isBeam (nI b)) = true then false else true))).2) isShot states length at_ good runs did, rwC (q 1) cI 129 now, rwC (q 2) cI 129 ((f_X6_goTicks s28.2.2.2.1 (upd now (0 + b) (nI i28)) (100 : Int32)).2.2), rwC (q 5) cI 8 ((f_X6_goTicks s28.2.2.2.1 (upd now (0 + b) (nI i28)) (100 : Int32)).2.1), rwC (q 6) cI 8 ((f_X6_groups s28.2.2.2.2 ((f_X6_goTicks s28.2.2.2.1 (upd now (0 + b) (nI i28)) (100 : Int32)).2.2)).2)].flatten → va_S A s.heap H locs → W p l e ({ frames := 5, cells := 0, slots := 0, locals := 116 } : Room) s m args below meth c H locs 0 0 QQ (F0 m 107 ls [.int v_22]) := by
          intro v_22 ls H locs e_v_22 hl hP hD hS
          subst e_v_22
          refine lv_istore_n (lv' := [(2, .int (if (if s28.2.1 = (-1 : Int32) then true else (if s28.1 ≤ (f_X6_groups s28.2.2.2.2 ((f_X6_goTicks s28.2.2.2.1 (upd now (0 + b) (nI i28)) (100 : Int32)).2.2)).1 then false else true)) = true then (nI i28) else s28.2.1)), (7, .int (bI (if s28.2.1 = (-1 : Int32) then true else (if s28.1 ≤ (f_X6_groups s28.2.2.2.2 ((f_X6_goTicks s28.2.2.2.1 (upd now (0 + b) (nI i28)) (100 : Int32)).2.2)).1 then false else true)))), (6, .int ((f_X6_groups s28.2.2.2.2 ((f_X6_goTicks s28.2.2.2.1 (upd now (0 + b) (nI i28)) (100 : Int32)).2.2)).1)), (4, .int (nI i28)), (3, .int s28.1), (0, .ref (q 0)), (1, .int (nI b))]) hx hb dX6_bestGive_107 rfl hl (by decide) rfl (fun ls hl => ?_)
          refine lv_iload hx hb dX6_bestGive_108 (lv_at hl 1 rfl) ?_
          have hM_28 : ∀ (v_27 : Int32) (ls : Array Slot) (H : Heap) (locs : List Loc), v_27 = (if (if s28.2.1 = (-1 : Int32) then true else (if s28.1 ≤ (f_X6_groups s28.2.2.2.2 ((f_X6_goTicks s28.2.2.2.1 (upd now (0 + b) (nI i28)) (100 : Int32)).2.2)).1 then false else true)) = true then (f_X6_groups s28.2.2.2.2 ((f_X6_goTicks s28.2.2.2.1 (upd now (0 + b) (nI i28)) (100 : Int32)).2.2)).1 else s28.1) → lv_has ls 8 [(2, .int (if (if s28.2.1 = (-1 : Int32) then true else (if s28.1 ≤ (f_X6_groups s28.2.2.2.2 ((f_X6_goTicks s28.2.2.2.1 (upd now (0 + b) (nI i28)) (100 : Int32)).2.2)).1 then false else true)) = true then (nI i28) else s28.2.1)), (4, .int (nI i28)), (0, .ref (q 0)), (1, .int (nI b))] → va_P G classes [mdC q ((f_X6_refused (bI (if (f_X6_isBeam (nI b)) = true then false else true))).2) isShot states length at_ good runs did, rwC (q 1) cI 129 now, rwC (q 2) cI 129 ((f_X6_goTicks s28.2.2.2.1 (upd now (0 + b) (nI i28)) (100 : Int32)).2.2), rwC (q 5) cI 8 ((f_X6_goTicks s28.2.2.2.1 (upd now (0 + b) (nI i28)) (100 : Int32)).2.1), rwC (q 6) cI 8 ((f_X6_groups s28.2.2.2.2 ((f_X6_goTicks s28.2.2.2.1 (upd now (0 + b) (nI i28)) (100 : Int32)).2.2)).2)].flatten H → va_D A [mdC q ((f_X6_refused (bI (if (f_X6_isBeam (nI b)) = true then false else true))).2) isShot states length at_ good runs did, rwC (q 1) cI 129 now, rwC (q 2) cI 129 ((f_X6_goTicks s28.2.2.2.1 (upd now (0 + b) (nI i28)) (100 : Int32)).2.2), rwC (q 5) cI 8 ((f_X6_goTicks s28.2.2.2.1 (upd now (0 + b) (nI i28)) (100 : Int32)).2.1), rwC (q 6) cI 8 ((f_X6_groups s28.2.2.2.2 ((f_X6_goTicks s28.2.2.2.1 (upd now (0 + b) (nI i28)) (100 : Int32)).2.2)).2)].flatten → va_S A s.heap H locs → W p l e ({ frames := 5, cells := 0, slots := 0, locals := 116 } : Room) s m args below meth c H locs 0 0 QQ (F0 m 119 ls [.int v_27]) := by
            intro v_27 ls H locs e_v_27 hl hP hD hS
            subst e_v_27
            refine lv_istore_n (lv' := [(3, .int (if (if s28.2.1 = (-1 : Int32) then true else (if s28.1 ≤ (f_X6_groups s28.2.2.2.2 ((f_X6_goTicks s28.2.2.2.1 (upd now (0 + b) (nI i28)) (100 : Int32)).2.2)).1 then false else true)) = true then (f_X6_groups s28.2.2.2.2 ((f_X6_goTicks s28.2.2.2.1 (upd now (0 + b) (nI i28)) (100 : Int32)).2.2)).1 else s28.1)), (2, .int (if (if s28.2.1 = (-1 : Int32) then true else (if s28.1 ≤ (f_X6_groups s28.2.2.2.2 ((f_X6_goTicks s28.2.2.2.1 (upd now (0 + b) (nI i28)) (100 : Int32)).2.2)).1 then false else true)) = true then (nI i28) else s28.2.1)), (4, .int (nI i28)), (0, .ref (q 0)), (1, .int (nI b))]) hx hb dX6_bestGive_119 rfl hl (by decide) rfl (fun ls hl => ?_)
            refine nv_iinc (k := 2) (lv' := [(4, .int (nI (i28 + 1))), (3, .int (if (if s28.2.1 = (-1 : Int32) then true else (if s28.1 ≤ (f_X6_groups s28.2.2.2.2 ((f_X6_goTicks s28.2.2.2.1 (upd now (0 + b) (nI i28)) (100 : Int32)).2.2)).1 then false else true)) = true then (f_X6_groups s28.2.2.2.2 ((f_X6_goTicks s28.2.2.2.1 (upd now (0 + b) (nI i28)) (100 : Int32)).2.2)).1 else s28.1)), (2, .int (if (if s28.2.1 = (-1 : Int32) then true else (if s28.1 ≤ (f_X6_groups s28.2.2.2.2 ((f_X6_goTicks s28.2.2.2.1 (upd now (0 + b) (nI i28)) (100 : Int32)).2.2)).1 then false else true)) = true then (nI i28) else s28.2.1)), (0, .ref (q 0)), (1, .int (nI b))]) hx hb i28 dX6_bestGive_120 hl rfl (by decide) rfl (fun ls hl => ?_)
            refine lv_goto (tgt := 28) hx hb dX6_bestGive_123 (by decide) ?_
            exact ih _ _ _ (lv_sub hl [0, 1, 2, 3, 4] rfl) hP hD hS
          refine bv_ifeq hx hb (if s28.2.1 = (-1 : Int32) then true else (if s28.1 ≤ (f_X6_groups s28.2.2.2.2 ((f_X6_goTicks s28.2.2.2.1 (upd now (0 + b) (nI i28)) (100 : Int32)).2.2)).1 then false else true)) 118 dX6_bestGive_110 (by decide) (fun c_24 => ?_) (fun c_24 => ?_)
          · refine lv_iload_n hx hb dX6_bestGive_118 rfl (lv_at hl 4 rfl) ?_
            exact hM_28 s28.1 _ _ _ (if_neg c_24).symm (lv_sub hl [0, 3, 5, 6] rfl) hP hD hS
          · refine lv_iload hx hb dX6_bestGive_113 (lv_at hl 2 rfl) ?_
            refine lv_goto (tgt := 119) hx hb dX6_bestGive_115 (by decide) ?_
            exact hM_28 ((f_X6_groups s28.2.2.2.2 ((f_X6_goTicks s28.2.2.2.1 (upd now (0 + b) (nI i28)) (100 : Int32)).2.2)).1) _ _ _ (if_pos c_24).symm (lv_sub hl [0, 3, 5, 6] rfl) hP hD hS
        refine bv_ifeq hx hb (if s28.2.1 = (-1 : Int32) then true else (if s28.1 ≤ (f_X6_groups s28.2.2.2.2 ((f_X6_goTicks s28.2.2.2.1 (upd now (0 + b) (nI i28)) (100 : Int32)).2.2)).1 then false else true)) 106 dX6_bestGive_98 (by decide) (fun c_19 => ?_) (fun c_19 => ?_)
        · refine lv_iload_n hx hb dX6_bestGive_106 rfl (lv_at hl 4 rfl) ?_
          exact hM_23 s28.2.1 _ _ _ (if_neg c_19).symm (lv_sub hl [0, 1, 2, 3, 5, 6] rfl) hP hD hS
        · refine lv_iload hx hb dX6_bestGive_101 (lv_at hl 2 rfl) ?_
          refine lv_goto (tgt := 107) hx hb dX6_bestGive_103 (by decide) ?_
          exact hM_23 (nI i28) _ _ _ (if_pos c_19).symm (lv_sub hl [0, 1, 2, 3, 5, 6] rfl) hP hD hS
      refine lv_icmp_eq (tgt := 89) hx hb dX6_bestGive_80 (by decide) (fun c_9 => ?_) (fun c_9 => ?_)
      · refine lv_iconst (v := 1) hx hb dX6_bestGive_89 (by decide) ?_
        refine lv_goto (tgt := 94) hx hb dX6_bestGive_90 (by decide) ?_
        exact hM_18 true _ _ _ (if_pos c_9).symm (lv_sub hl [0, 2, 3, 4, 5, 6] rfl) hP hD hS
      · refine lv_iload hx hb dX6_bestGive_83 (lv_at hl 0 rfl) ?_
        refine lv_iload_n hx hb dX6_bestGive_85 rfl (lv_at hl 3 rfl) ?_
        have hM_15 : ∀ (v_14 : Bool) (ls : Array Slot) (H : Heap) (locs : List Loc), v_14 = (if s28.1 ≤ (f_X6_groups s28.2.2.2.2 ((f_X6_goTicks s28.2.2.2.1 (upd now (0 + b) (nI i28)) (100 : Int32)).2.2)).1 then false else true) → lv_has ls 8 [(6, .int ((f_X6_groups s28.2.2.2.2 ((f_X6_goTicks s28.2.2.2.1 (upd now (0 + b) (nI i28)) (100 : Int32)).2.2)).1)), (4, .int (nI i28)), (3, .int s28.1), (2, .int s28.2.1), (0, .ref (q 0)), (1, .int (nI b))] → va_P G classes [mdC q ((f_X6_refused (bI (if (f_X6_isBeam (nI b)) = true then false else true))).2) isShot states length at_ good runs did, rwC (q 1) cI 129 now, rwC (q 2) cI 129 ((f_X6_goTicks s28.2.2.2.1 (upd now (0 + b) (nI i28)) (100 : Int32)).2.2), rwC (q 5) cI 8 ((f_X6_goTicks s28.2.2.2.1 (upd now (0 + b) (nI i28)) (100 : Int32)).2.1), rwC (q 6) cI 8 ((f_X6_groups s28.2.2.2.2 ((f_X6_goTicks s28.2.2.2.1 (upd now (0 + b) (nI i28)) (100 : Int32)).2.2)).2)].flatten H → va_D A [mdC q ((f_X6_refused (bI (if (f_X6_isBeam (nI b)) = true then false else true))).2) isShot states length at_ good runs did, rwC (q 1) cI 129 now, rwC (q 2) cI 129 ((f_X6_goTicks s28.2.2.2.1 (upd now (0 + b) (nI i28)) (100 : Int32)).2.2), rwC (q 5) cI 8 ((f_X6_goTicks s28.2.2.2.1 (upd now (0 + b) (nI i28)) (100 : Int32)).2.1), rwC (q 6) cI 8 ((f_X6_groups s28.2.2.2.2 ((f_X6_goTicks s28.2.2.2.1 (upd now (0 + b) (nI i28)) (100 : Int32)).2.2)).2)].flatten → va_S A s.heap H locs → W p l e ({ frames := 5, cells := 0, slots := 0, locals := 116 } : Room) s m args below meth c H locs 0 0 QQ (F0 m 94 ls [.int (bI v_14)]) := by
          intro v_14 ls H locs e_v_14 hl hP hD hS
          subst e_v_14
          exact hM_18 (if s28.1 ≤ (f_X6_groups s28.2.2.2.2 ((f_X6_goTicks s28.2.2.2.1 (upd now (0 + b) (nI i28)) (100 : Int32)).2.2)).1 then false else true) _ _ _ (if_neg c_9).symm (lv_sub hl [0, 1, 2, 3, 4, 5] rfl) hP hD hS
        refine lv_icmp_ge (tgt := 93) hx hb dX6_bestGive_86 (by decide) (fun c_11 => ?_) (fun c_11 => ?_)
        · refine lv_iconst (v := 0) hx hb dX6_bestGive_93 (by decide) ?_
          exact hM_15 false _ _ _ (if_pos c_11).symm (lv_sub hl [0, 2, 3, 4, 5, 6] rfl) hP hD hS
        · refine lv_iconst (v := 1) hx hb dX6_bestGive_89 (by decide) ?_
          refine lv_goto (tgt := 94) hx hb dX6_bestGive_90 (by decide) ?_
          exact hM_15 true _ _ _ (if_neg c_11).symm (lv_sub hl [0, 2, 3, 4, 5, 6] rfl) hP hD hS
    · intro ls H locs hl hP hD hS
      refine lv_iload hx hb dX6_bestGive_28 (lv_at hl 0 rfl) ?_
      refine lv_bipush (v := 20) hx hb dX6_bestGive_30 (by decide) ?_
      refine nv_gt hx hb 21 20 126 (by omega) (by omega) dX6_bestGive_32 (by decide) (fun _ => ?_) (fun hc => absurd hc (by omega))
      refine lv_iload_n hx hb dX6_bestGive_126 rfl (lv_at hl 2 rfl) ?_
      rw [← hQQ]; exact W.iret hx hb hr (ct_end (F := (f_X6_bestGive now trial pulls group b)) (u := ((it (L_X6_bestGive_28 now b) 0 21 ((0 : Int32), (-1 : Int32), trial, pulls, group)).2.1, (f_X6_refused (bI (if (f_X6_isBeam (nI b)) = true then false else true))).2, (it (L_X6_bestGive_28 now b) 0 21 ((0 : Int32), (-1 : Int32), trial, pulls, group)).2.2.1, (it (L_X6_bestGive_28 now b) 0 21 ((0 : Int32), (-1 : Int32), trial, pulls, group)).2.2.2.1, (it (L_X6_bestGive_28 now b) 0 21 ((0 : Int32), (-1 : Int32), trial, pulls, group)).2.2.2.2)) (rf := (fun u => some (.int u.1))) (wf := (fun u => [mdC q u.2.1 isShot states length at_ good runs did, rwC (q 1) cI 129 now, rwC (q 2) cI 129 u.2.2.1, rwC (q 5) cI 8 u.2.2.2.1, rwC (q 6) cI 8 u.2.2.2.2].flatten)) rfl rfl hP hD hS) hS.2.2 dX6_bestGive_127
  refine bv_ifeq hx hb (f_X6_isBeam (nI b)) 12 dX6_bestGive_5 (by decide) (fun c_1 => ?_) (fun c_1 => ?_)
  · refine lv_iconst (v := 1) hx hb dX6_bestGive_12 (by decide) ?_
    exact hM_5 true _ _ _ (if_neg c_1).symm (lv_sub hl [0, 1] rfl) hP hD hS
  · refine lv_iconst (v := 0) hx hb dX6_bestGive_8 (by decide) ?_
    refine lv_goto (tgt := 13) hx hb dX6_bestGive_9 (by decide) ?_
    exact hM_5 false _ _ _ (if_pos c_1).symm (lv_sub hl [0, 1] rfl) hP hD hS
set_option maxRecDepth 100000 in
set_option maxHeartbeats 4000000 in
theorem k_X6_bestGive_R (l : Launch) (G : va_G) (cI cS cL : ClassId) (q : Nat → Nat) (refusal : Int32) (isShot : Bool) (states : Nat) (length : Nat) (at_ : Nat) (good : Bool) (runs : Bool) (did : Int32) (now : Nat → Int32) (trial : Nat → Int32) (pulls : Nat → Int32) (group : Nat → Int32) (b : Int32) (hrf : ((f_X6_refused (bI (if (f_X6_isBeam b) = true then false else true))).1) = true) : Ct l G (tyl cI cS cL) yX6_bestGive cX6_bestGive 8 (some (Jvm.ClassFile.FieldType.int)) 2 45 0 0 [.ref (q 0), .int b] [mdC q refusal isShot states length at_ good runs did, rwC (q 1) cI 129 now, rwC (q 2) cI 129 trial, rwC (q 5) cI 8 pulls, rwC (q 6) cI 8 group].flatten (f_X6_bestGive_R b) (fun u => some (.int u.1)) (fun u => [mdC q u.2 isShot states length at_ good runs did, rwC (q 1) cI 129 now, rwC (q 2) cI 129 trial, rwC (q 5) cI 8 pulls, rwC (q 6) cI 8 group].flatten) := by
  refine Ct.of (by decide +kernel) (Nat.le_of_ble_eq_true rfl) ?_
  intro p e s m args below meth c A ls hx hb hr hml hw hown hlocks hin hK hN hP hD hS hA hl
  have hown : s.vm.findClass RX6 = some m.cls := hown
  have X : Cx p s m args c cX6_bestGive 8 RX6 G (tyl cI cS cL) := ⟨hx, hb, hml, hown, hw, hK, hN⟩
  have hP : va_P G classes [mdC q refusal isShot states length at_ good runs did, rwC (q 1) cI 129 now, rwC (q 2) cI 129 trial, rwC (q 5) cI 8 pulls, rwC (q 6) cI 8 group].flatten s.heap := hP
  have hl : lv_has ls 8 [(0, .ref (q 0)), (1, .int b)] := hl
  generalize hQQ : MQ below _ args s 0 0 A = QQ
  refine lv_aload_n hx hb dX6_bestGive_0 rfl (lv_at hl 0 rfl) ?_
  refine lv_iload_n hx hb dX6_bestGive_1 rfl (lv_at hl 1 rfl) ?_
  refine ct_callS (As := [.int b]) (rest := [.ref (q 0)]) X hP hD hS hA (k_X6_isBeam l G cI cS cL  b) cq_X6_isBeam aw_987 ⟨Nat.le_of_ble_eq_true rfl, Nat.le_of_ble_eq_true rfl⟩ ([] : List Nat) (cs := []) rfl (by decide) (cs' := []) rfl rfl rfl hl.1 rfl (Nat.le_of_ble_eq_true rfl) dX6_bestGive_2 ⟨Nat.zero_le _, Nat.zero_le _⟩ rfl (bs' := [mdC q refusal isShot states length at_ good runs did, rwC (q 1) cI 129 now, rwC (q 2) cI 129 trial, rwC (q 5) cI 8 pulls, rwC (q 6) cI 8 group]) rfl (fun H locs hP hD hS => ?_)
  have hM_5 : ∀ (v_4 : Bool) (ls : Array Slot) (H : Heap) (locs : List Loc), v_4 = (if (f_X6_isBeam b) = true then false else true) → lv_has ls 8 [(0, .ref (q 0)), (1, .int b)] → va_P G classes [mdC q refusal isShot states length at_ good runs did, rwC (q 1) cI 129 now, rwC (q 2) cI 129 trial, rwC (q 5) cI 8 pulls, rwC (q 6) cI 8 group].flatten H → va_D A [mdC q refusal isShot states length at_ good runs did, rwC (q 1) cI 129 now, rwC (q 2) cI 129 trial, rwC (q 5) cI 8 pulls, rwC (q 6) cI 8 group].flatten → va_S A s.heap H locs → W p l e ({ frames := 2, cells := 0, slots := 0, locals := 45 } : Room) s m args below meth c H locs 0 0 QQ (F0 m 13 ls [.int (bI v_4), .ref (q 0)]) := by
    intro v_4 ls H locs e_v_4 hl hP hD hS
    subst e_v_4
    refine ct_callV (As := [.int (bI (if (f_X6_isBeam b) = true then false else true))]) (rest := []) X hP hD hS hA (k_X6_refused l G cI cS cL q refusal isShot states length at_ good runs did (bI (if (f_X6_isBeam b) = true then false else true))) cp_X6_refused aw_929 ⟨Nat.le_of_ble_eq_true rfl, Nat.le_of_ble_eq_true rfl⟩ [0] (cs := [mdC q refusal isShot states length at_ good runs did]) rfl (by decide) (cs' := [mdC q ((f_X6_refused (bI (if (f_X6_isBeam b) = true then false else true))).2) isShot states length at_ good runs did]) rfl rfl 4 rfl rfl (q0 := 0) rfl rfl hl.1 rfl (Nat.le_of_ble_eq_true rfl) dX6_bestGive_13 ⟨Nat.zero_le _, Nat.zero_le _⟩ rfl (bs' := [mdC q ((f_X6_refused (bI (if (f_X6_isBeam b) = true then false else true))).2) isShot states length at_ good runs did, rwC (q 1) cI 129 now, rwC (q 2) cI 129 trial, rwC (q 5) cI 8 pulls, rwC (q 6) cI 8 group]) rfl (fun H locs hP hD hS => ?_)
    refine bv_ifeq hx hb ((f_X6_refused (bI (if (f_X6_isBeam b) = true then false else true))).1) 21 dX6_bestGive_16 (by decide) (fun c => absurd hrf c) (fun c_6 => ?_)
    refine lv_iconst (v := 0) hx hb dX6_bestGive_19 (by decide) ?_
    rw [← hQQ]; exact W.iret hx hb hr (ct_end (F := (f_X6_bestGive_R b)) (u := ((0 : Int32), (f_X6_refused (bI (if (f_X6_isBeam b) = true then false else true))).2)) (rf := (fun u => some (.int u.1))) (wf := (fun u => [mdC q u.2 isShot states length at_ good runs did, rwC (q 1) cI 129 now, rwC (q 2) cI 129 trial, rwC (q 5) cI 8 pulls, rwC (q 6) cI 8 group].flatten)) rfl rfl hP hD hS) hS.2.2 dX6_bestGive_20
  refine bv_ifeq hx hb (f_X6_isBeam b) 12 dX6_bestGive_5 (by decide) (fun c_1 => ?_) (fun c_1 => ?_)
  · refine lv_iconst (v := 1) hx hb dX6_bestGive_12 (by decide) ?_
    exact hM_5 true _ _ _ (if_neg c_1).symm (lv_sub hl [0, 1] rfl) hP hD hS
  · refine lv_iconst (v := 0) hx hb dX6_bestGive_8 (by decide) ?_
    refine lv_goto (tgt := 13) hx hb dX6_bestGive_9 (by decide) ?_
    exact hM_5 false _ _ _ (if_pos c_1).symm (lv_sub hl [0, 1] rfl) hP hD hS
set_option maxRecDepth 100000 in
set_option maxHeartbeats 4000000 in
theorem k_X6_append (l : Launch) (G : va_G) (cI cS cL : ClassId) (q : Nat → Nat) (refusal : Int32) (isShot : Bool) (states : Nat) (length : Nat) (at_ : Nat) (good : Bool) (runs : Bool) (did : Int32) (text : Nat → Int32) (code : Int32) (hlen : length ≤ 60) (hrf : ¬ (((f_X6_refused (if (f_X6_in code.toInt64 (33 : Int64) (126 : Int64)) = true then (if length = 60 then (2 : Int32) else (0 : Int32)) else (1 : Int32))).1) = true)) : Ct l G (tyl cI cS cL) yX6_append cX6_append 2 (some (Jvm.ClassFile.FieldType.int)) 1 25 0 0 [.ref (q 0), .int code] [mdC q refusal isShot states length at_ good runs did, rwC (q 7) cI 60 text].flatten (f_X6_append length text code) (fun u => some (.int u.1)) (fun u => [mdC q u.2.1 isShot states u.2.2.1 at_ good runs did, rwC (q 7) cI 60 u.2.2.2].flatten) := by
  refine Ct.of (by decide +kernel) (Nat.le_of_ble_eq_true rfl) ?_
  intro p e s m args below meth c A ls hx hb hr hml hw hown hlocks hin hK hN hP hD hS hA hl
  have hown : s.vm.findClass RX6 = some m.cls := hown
  have X : Cx p s m args c cX6_append 2 RX6 G (tyl cI cS cL) := ⟨hx, hb, hml, hown, hw, hK, hN⟩
  have hP : va_P G classes [mdC q refusal isShot states length at_ good runs did, rwC (q 7) cI 60 text].flatten s.heap := hP
  have hl : lv_has ls 2 [(0, .ref (q 0)), (1, .int code)] := hl
  generalize hQQ : MQ below _ args s 0 0 A = QQ
  refine lv_aload_n hx hb dX6_append_0 rfl (lv_at hl 0 rfl) ?_
  refine lv_iload_n hx hb dX6_append_1 rfl (lv_at hl 1 rfl) ?_
  refine lv_i2l hx hb dX6_append_2 rfl ?_
  refine lv_ldc2 hx hb hown (hw _ aw_1030) dX6_append_3 ?_
  refine lv_ldc2 hx hb hown (hw _ aw_1031) dX6_append_6 ?_
  refine ct_callS (As := [.long code.toInt64, .long (33 : Int64), .long (126 : Int64)]) (rest := [.ref (q 0)]) X hP hD hS hA (k_X6_in l G cI cS cL  code.toInt64 (33 : Int64) (126 : Int64)) cq_X6_in aw_926 ⟨Nat.le_of_ble_eq_true rfl, Nat.le_of_ble_eq_true rfl⟩ ([] : List Nat) (cs := []) rfl (by decide) (cs' := []) rfl rfl rfl hl.1 rfl (Nat.le_of_ble_eq_true rfl) dX6_append_9 ⟨Nat.zero_le _, Nat.zero_le _⟩ rfl (bs' := [mdC q refusal isShot states length at_ good runs did, rwC (q 7) cI 60 text]) rfl (fun H locs hP hD hS => ?_)
  have hM_10 : ∀ (v_9 : Int32) (ls : Array Slot) (H : Heap) (locs : List Loc), v_9 = (if (f_X6_in code.toInt64 (33 : Int64) (126 : Int64)) = true then (if length = 60 then (2 : Int32) else (0 : Int32)) else (1 : Int32)) → lv_has ls 2 [(0, .ref (q 0)), (1, .int code)] → va_P G classes [mdC q refusal isShot states length at_ good runs did, rwC (q 7) cI 60 text].flatten H → va_D A [mdC q refusal isShot states length at_ good runs did, rwC (q 7) cI 60 text].flatten → va_S A s.heap H locs → W p l e ({ frames := 1, cells := 0, slots := 0, locals := 25 } : Room) s m args below meth c H locs 0 0 QQ (F0 m 33 ls [.int v_9, .ref (q 0)]) := by
    intro v_9 ls H locs e_v_9 hl hP hD hS
    subst e_v_9
    refine ct_callV (As := [.int (if (f_X6_in code.toInt64 (33 : Int64) (126 : Int64)) = true then (if length = 60 then (2 : Int32) else (0 : Int32)) else (1 : Int32))]) (rest := []) X hP hD hS hA (k_X6_refused l G cI cS cL q refusal isShot states length at_ good runs did (if (f_X6_in code.toInt64 (33 : Int64) (126 : Int64)) = true then (if length = 60 then (2 : Int32) else (0 : Int32)) else (1 : Int32))) cp_X6_refused aw_929 ⟨Nat.le_of_ble_eq_true rfl, Nat.le_of_ble_eq_true rfl⟩ [0] (cs := [mdC q refusal isShot states length at_ good runs did]) rfl (by decide) (cs' := [mdC q ((f_X6_refused (if (f_X6_in code.toInt64 (33 : Int64) (126 : Int64)) = true then (if length = 60 then (2 : Int32) else (0 : Int32)) else (1 : Int32))).2) isShot states length at_ good runs did]) rfl rfl 4 rfl rfl (q0 := 0) rfl rfl hl.1 rfl (Nat.le_of_ble_eq_true rfl) dX6_append_33 ⟨Nat.zero_le _, Nat.zero_le _⟩ rfl (bs' := [mdC q ((f_X6_refused (if (f_X6_in code.toInt64 (33 : Int64) (126 : Int64)) = true then (if length = 60 then (2 : Int32) else (0 : Int32)) else (1 : Int32))).2) isShot states length at_ good runs did, rwC (q 7) cI 60 text]) rfl (fun H locs hP hD hS => ?_)
    refine bv_ifeq hx hb ((f_X6_refused (if (f_X6_in code.toInt64 (33 : Int64) (126 : Int64)) = true then (if length = 60 then (2 : Int32) else (0 : Int32)) else (1 : Int32))).1) 41 dX6_append_36 (by decide) (fun c_11 => ?_) (fun c => absurd c hrf)
    refine lv_aload_n hx hb dX6_append_41 rfl (lv_at hl 0 rfl) ?_
    refine va_get (D := G) (ci := 4) (C := RX6) (T := TX6) (N := 15) hx hb hw in_X6 hown hK hP 0 rfl rfl 9 (by decide) (hw _ aw_880) (fun _ h9 => h9) rfl dX6_append_42 ?_
    refine lv_aload_n hx hb dX6_append_45 rfl (lv_at hl 0 rfl) ?_
    refine va_get (D := G) (ci := 4) (C := RX6) (T := TX6) (N := 15) hx hb hw in_X6 hown hK hP 0 rfl rfl 10 (by decide) (hw _ aw_881) (fun _ h9 => h9) rfl dX6_append_46 ?_
    refine lv_iload_n hx hb dX6_append_49 rfl (lv_at hl 1 rfl) ?_
    refine nv_iast hx hb hK hP hD hS 1 0 rfl rfl length (by first | omega | exact app_lt hlen hrf) (by decide) dX6_append_50 (ws' := [mdC q ((f_X6_refused (if (f_X6_in code.toInt64 (33 : Int64) (126 : Int64)) = true then (if length = 60 then (2 : Int32) else (0 : Int32)) else (1 : Int32))).2) isShot states length at_ good runs did, rwC (q 7) cI 60 (upd text length code)].flatten) rfl (fun H locs hP hD hS => ?_)
    refine lv_aload_n hx hb dX6_append_51 rfl (lv_at hl 0 rfl) ?_
    refine lv_dup hx hb dX6_append_52 rfl ?_
    refine va_get (D := G) (ci := 4) (C := RX6) (T := TX6) (N := 15) hx hb hw in_X6 hown hK hP 0 rfl rfl 10 (by decide) (hw _ aw_881) (fun _ h9 => h9) rfl dX6_append_53 ?_
    refine lv_iconst (v := 1) hx hb dX6_append_56 (by decide) ?_
    refine nv_iadd hx hb length 1 dX6_append_57 ?_
    refine nv_put (D := G) (ci := 4) (ty := .int) (v := .int (nI (length + 1))) (C := RX6) (T := TX6) (N := 15) hx hb hw in_X6 tyX6 tyX6_ok nmX6 hown hK hP hD hS 0 rfl rfl 10 (by decide) (hw _ aw_881) (fun _ h9 => h9) rfl (by decide +kernel) rfl rfl (Nat.le_of_ble_eq_true rfl) dX6_append_58 (ws' := [mdC q ((f_X6_refused (if (f_X6_in code.toInt64 (33 : Int64) (126 : Int64)) = true then (if length = 60 then (2 : Int32) else (0 : Int32)) else (1 : Int32))).2) isShot states (length + 1) at_ good runs did, rwC (q 7) cI 60 (upd text length code)].flatten) rfl (fun H locs hP hD hS => ?_)
    refine lv_aload_n hx hb dX6_append_61 rfl (lv_at hl 0 rfl) ?_
    refine va_get (D := G) (ci := 4) (C := RX6) (T := TX6) (N := 15) hx hb hw in_X6 hown hK hP 0 rfl rfl 10 (by decide) (hw _ aw_881) (fun _ h9 => h9) rfl dX6_append_62 ?_
    rw [← hQQ]; exact W.iret hx hb hr (ct_end (F := (f_X6_append length text code)) (u := ((nI (length + 1)), (f_X6_refused (if (f_X6_in code.toInt64 (33 : Int64) (126 : Int64)) = true then (if length = 60 then (2 : Int32) else (0 : Int32)) else (1 : Int32))).2, (length + 1), (upd text length code))) (rf := (fun u => some (.int u.1))) (wf := (fun u => [mdC q u.2.1 isShot states u.2.2.1 at_ good runs did, rwC (q 7) cI 60 u.2.2.2].flatten)) rfl rfl hP hD hS) hS.2.2 dX6_append_65
  refine bv_ifne hx hb (f_X6_in code.toInt64 (33 : Int64) (126 : Int64)) 19 dX6_append_12 (by decide) (fun c_1 => ?_) (fun c_1 => ?_)
  · refine lv_aload_n hx hb dX6_append_19 rfl (lv_at hl 0 rfl) ?_
    refine va_get (D := G) (ci := 4) (C := RX6) (T := TX6) (N := 15) hx hb hw in_X6 hown hK hP 0 rfl rfl 10 (by decide) (hw _ aw_881) (fun _ h9 => h9) rfl dX6_append_20 ?_
    refine lv_bipush (v := 60) hx hb dX6_append_23 (by decide) ?_
    have hM_6 : ∀ (v_5 : Int32) (ls : Array Slot) (H : Heap) (locs : List Loc), v_5 = (if length = 60 then (2 : Int32) else (0 : Int32)) → lv_has ls 2 [(0, .ref (q 0)), (1, .int code)] → va_P G classes [mdC q refusal isShot states length at_ good runs did, rwC (q 7) cI 60 text].flatten H → va_D A [mdC q refusal isShot states length at_ good runs did, rwC (q 7) cI 60 text].flatten → va_S A s.heap H locs → W p l e ({ frames := 1, cells := 0, slots := 0, locals := 25 } : Room) s m args below meth c H locs 0 0 QQ (F0 m 33 ls [.int v_5, .ref (q 0)]) := by
      intro v_5 ls H locs e_v_5 hl hP hD hS
      subst e_v_5
      exact hM_10 (if length = 60 then (2 : Int32) else (0 : Int32)) _ _ _ (if_pos c_1).symm (lv_sub hl [0, 1] rfl) hP hD hS
    refine nv_ne hx hb length 60 32 (by omega) (by omega) dX6_append_25 (by decide) (fun c_2 => ?_) (fun c_2 => ?_)
    · refine lv_iconst (v := 0) hx hb dX6_append_32 (by decide) ?_
      exact hM_6 (0 : Int32) _ _ _ (if_neg c_2).symm (lv_sub hl [0, 1] rfl) hP hD hS
    · refine lv_iconst (v := 2) hx hb dX6_append_28 (by decide) ?_
      refine lv_goto (tgt := 33) hx hb dX6_append_29 (by decide) ?_
      exact hM_6 (2 : Int32) _ _ _ (if_pos c_2).symm (lv_sub hl [0, 1] rfl) hP hD hS
  · refine lv_iconst (v := 1) hx hb dX6_append_15 (by decide) ?_
    refine lv_goto (tgt := 33) hx hb dX6_append_16 (by decide) ?_
    exact hM_10 (1 : Int32) _ _ _ (if_neg c_1).symm (lv_sub hl [0, 1] rfl) hP hD hS
set_option maxRecDepth 100000 in
set_option maxHeartbeats 4000000 in
theorem k_X6_append_R (l : Launch) (G : va_G) (cI cS cL : ClassId) (q : Nat → Nat) (refusal : Int32) (isShot : Bool) (states : Nat) (length : Nat) (at_ : Nat) (good : Bool) (runs : Bool) (did : Int32) (text : Nat → Int32) (code : Int32) (hlen : length ≤ 60) (hrf : ((f_X6_refused (if (f_X6_in code.toInt64 (33 : Int64) (126 : Int64)) = true then (if length = 60 then (2 : Int32) else (0 : Int32)) else (1 : Int32))).1) = true) : Ct l G (tyl cI cS cL) yX6_append cX6_append 2 (some (Jvm.ClassFile.FieldType.int)) 1 25 0 0 [.ref (q 0), .int code] [mdC q refusal isShot states length at_ good runs did, rwC (q 7) cI 60 text].flatten (f_X6_append_R length code) (fun u => some (.int u.1)) (fun u => [mdC q u.2 isShot states length at_ good runs did, rwC (q 7) cI 60 text].flatten) := by
  refine Ct.of (by decide +kernel) (Nat.le_of_ble_eq_true rfl) ?_
  intro p e s m args below meth c A ls hx hb hr hml hw hown hlocks hin hK hN hP hD hS hA hl
  have hown : s.vm.findClass RX6 = some m.cls := hown
  have X : Cx p s m args c cX6_append 2 RX6 G (tyl cI cS cL) := ⟨hx, hb, hml, hown, hw, hK, hN⟩
  have hP : va_P G classes [mdC q refusal isShot states length at_ good runs did, rwC (q 7) cI 60 text].flatten s.heap := hP
  have hl : lv_has ls 2 [(0, .ref (q 0)), (1, .int code)] := hl
  generalize hQQ : MQ below _ args s 0 0 A = QQ
  refine lv_aload_n hx hb dX6_append_0 rfl (lv_at hl 0 rfl) ?_
  refine lv_iload_n hx hb dX6_append_1 rfl (lv_at hl 1 rfl) ?_
  refine lv_i2l hx hb dX6_append_2 rfl ?_
  refine lv_ldc2 hx hb hown (hw _ aw_1030) dX6_append_3 ?_
  refine lv_ldc2 hx hb hown (hw _ aw_1031) dX6_append_6 ?_
  refine ct_callS (As := [.long code.toInt64, .long (33 : Int64), .long (126 : Int64)]) (rest := [.ref (q 0)]) X hP hD hS hA (k_X6_in l G cI cS cL  code.toInt64 (33 : Int64) (126 : Int64)) cq_X6_in aw_926 ⟨Nat.le_of_ble_eq_true rfl, Nat.le_of_ble_eq_true rfl⟩ ([] : List Nat) (cs := []) rfl (by decide) (cs' := []) rfl rfl rfl hl.1 rfl (Nat.le_of_ble_eq_true rfl) dX6_append_9 ⟨Nat.zero_le _, Nat.zero_le _⟩ rfl (bs' := [mdC q refusal isShot states length at_ good runs did, rwC (q 7) cI 60 text]) rfl (fun H locs hP hD hS => ?_)
  have hM_10 : ∀ (v_9 : Int32) (ls : Array Slot) (H : Heap) (locs : List Loc), v_9 = (if (f_X6_in code.toInt64 (33 : Int64) (126 : Int64)) = true then (if length = 60 then (2 : Int32) else (0 : Int32)) else (1 : Int32)) → lv_has ls 2 [(0, .ref (q 0)), (1, .int code)] → va_P G classes [mdC q refusal isShot states length at_ good runs did, rwC (q 7) cI 60 text].flatten H → va_D A [mdC q refusal isShot states length at_ good runs did, rwC (q 7) cI 60 text].flatten → va_S A s.heap H locs → W p l e ({ frames := 1, cells := 0, slots := 0, locals := 25 } : Room) s m args below meth c H locs 0 0 QQ (F0 m 33 ls [.int v_9, .ref (q 0)]) := by
    intro v_9 ls H locs e_v_9 hl hP hD hS
    subst e_v_9
    refine ct_callV (As := [.int (if (f_X6_in code.toInt64 (33 : Int64) (126 : Int64)) = true then (if length = 60 then (2 : Int32) else (0 : Int32)) else (1 : Int32))]) (rest := []) X hP hD hS hA (k_X6_refused l G cI cS cL q refusal isShot states length at_ good runs did (if (f_X6_in code.toInt64 (33 : Int64) (126 : Int64)) = true then (if length = 60 then (2 : Int32) else (0 : Int32)) else (1 : Int32))) cp_X6_refused aw_929 ⟨Nat.le_of_ble_eq_true rfl, Nat.le_of_ble_eq_true rfl⟩ [0] (cs := [mdC q refusal isShot states length at_ good runs did]) rfl (by decide) (cs' := [mdC q ((f_X6_refused (if (f_X6_in code.toInt64 (33 : Int64) (126 : Int64)) = true then (if length = 60 then (2 : Int32) else (0 : Int32)) else (1 : Int32))).2) isShot states length at_ good runs did]) rfl rfl 4 rfl rfl (q0 := 0) rfl rfl hl.1 rfl (Nat.le_of_ble_eq_true rfl) dX6_append_33 ⟨Nat.zero_le _, Nat.zero_le _⟩ rfl (bs' := [mdC q ((f_X6_refused (if (f_X6_in code.toInt64 (33 : Int64) (126 : Int64)) = true then (if length = 60 then (2 : Int32) else (0 : Int32)) else (1 : Int32))).2) isShot states length at_ good runs did, rwC (q 7) cI 60 text]) rfl (fun H locs hP hD hS => ?_)
    refine bv_ifeq hx hb ((f_X6_refused (if (f_X6_in code.toInt64 (33 : Int64) (126 : Int64)) = true then (if length = 60 then (2 : Int32) else (0 : Int32)) else (1 : Int32))).1) 41 dX6_append_36 (by decide) (fun c => absurd hrf c) (fun c_11 => ?_)
    refine lv_iconst (v := 0) hx hb dX6_append_39 (by decide) ?_
    rw [← hQQ]; exact W.iret hx hb hr (ct_end (F := (f_X6_append_R length code)) (u := ((0 : Int32), (f_X6_refused (if (f_X6_in code.toInt64 (33 : Int64) (126 : Int64)) = true then (if length = 60 then (2 : Int32) else (0 : Int32)) else (1 : Int32))).2)) (rf := (fun u => some (.int u.1))) (wf := (fun u => [mdC q u.2 isShot states length at_ good runs did, rwC (q 7) cI 60 text].flatten)) rfl rfl hP hD hS) hS.2.2 dX6_append_40
  refine bv_ifne hx hb (f_X6_in code.toInt64 (33 : Int64) (126 : Int64)) 19 dX6_append_12 (by decide) (fun c_1 => ?_) (fun c_1 => ?_)
  · refine lv_aload_n hx hb dX6_append_19 rfl (lv_at hl 0 rfl) ?_
    refine va_get (D := G) (ci := 4) (C := RX6) (T := TX6) (N := 15) hx hb hw in_X6 hown hK hP 0 rfl rfl 10 (by decide) (hw _ aw_881) (fun _ h9 => h9) rfl dX6_append_20 ?_
    refine lv_bipush (v := 60) hx hb dX6_append_23 (by decide) ?_
    have hM_6 : ∀ (v_5 : Int32) (ls : Array Slot) (H : Heap) (locs : List Loc), v_5 = (if length = 60 then (2 : Int32) else (0 : Int32)) → lv_has ls 2 [(0, .ref (q 0)), (1, .int code)] → va_P G classes [mdC q refusal isShot states length at_ good runs did, rwC (q 7) cI 60 text].flatten H → va_D A [mdC q refusal isShot states length at_ good runs did, rwC (q 7) cI 60 text].flatten → va_S A s.heap H locs → W p l e ({ frames := 1, cells := 0, slots := 0, locals := 25 } : Room) s m args below meth c H locs 0 0 QQ (F0 m 33 ls [.int v_5, .ref (q 0)]) := by
      intro v_5 ls H locs e_v_5 hl hP hD hS
      subst e_v_5
      exact hM_10 (if length = 60 then (2 : Int32) else (0 : Int32)) _ _ _ (if_pos c_1).symm (lv_sub hl [0, 1] rfl) hP hD hS
    refine nv_ne hx hb length 60 32 (by omega) (by omega) dX6_append_25 (by decide) (fun c_2 => ?_) (fun c_2 => ?_)
    · refine lv_iconst (v := 0) hx hb dX6_append_32 (by decide) ?_
      exact hM_6 (0 : Int32) _ _ _ (if_neg c_2).symm (lv_sub hl [0, 1] rfl) hP hD hS
    · refine lv_iconst (v := 2) hx hb dX6_append_28 (by decide) ?_
      refine lv_goto (tgt := 33) hx hb dX6_append_29 (by decide) ?_
      exact hM_6 (2 : Int32) _ _ _ (if_pos c_2).symm (lv_sub hl [0, 1] rfl) hP hD hS
  · refine lv_iconst (v := 1) hx hb dX6_append_15 (by decide) ?_
    refine lv_goto (tgt := 33) hx hb dX6_append_16 (by decide) ?_
    exact hM_10 (1 : Int32) _ _ _ (if_neg c_1).symm (lv_sub hl [0, 1] rfl) hP hD hS
set_option maxRecDepth 100000 in
set_option maxHeartbeats 4000000 in
theorem k_X6_clearBuffer (l : Launch) (G : va_G) (cI cS cL : ClassId) (q : Nat → Nat) (refusal : Int32) (isShot : Bool) (states : Nat) (length : Nat) (at_ : Nat) (good : Bool) (runs : Bool) (did : Int32) : Ct l G (tyl cI cS cL) yX6_clearBuffer cX6_clearBuffer 2 (some (Jvm.ClassFile.FieldType.int)) 0 0 0 0 [.ref (q 0)] [mdC q refusal isShot states length at_ good runs did].flatten (f_X6_clearBuffer length) (fun u => some (.int u.1)) (fun u => [mdC q u.2.1 isShot states u.2.2 at_ good runs did].flatten) := by
  refine Ct.of (by decide +kernel) (Nat.le_of_ble_eq_true rfl) ?_
  intro p e s m args below meth c A ls hx hb hr hml hw hown hlocks hin hK hN hP hD hS hA hl
  have hown : s.vm.findClass RX6 = some m.cls := hown
  have X : Cx p s m args c cX6_clearBuffer 2 RX6 G (tyl cI cS cL) := ⟨hx, hb, hml, hown, hw, hK, hN⟩
  have hP : va_P G classes [mdC q refusal isShot states length at_ good runs did].flatten s.heap := hP
  have hl : lv_has ls 2 [(0, .ref (q 0))] := hl
  generalize hQQ : MQ below _ args s 0 0 A = QQ
  refine lv_aload_n hx hb dX6_clearBuffer_0 rfl (lv_at hl 0 rfl) ?_
  refine lv_iconst (v := 0) hx hb dX6_clearBuffer_1 (by decide) ?_
  refine nv_put (D := G) (ci := 4) (ty := .int) (v := .int (0 : Int32)) (C := RX6) (T := TX6) (N := 15) hx hb hw in_X6 tyX6 tyX6_ok nmX6 hown hK hP hD hS 0 rfl rfl 0 (by decide) (hw _ aw_871) (fun _ h9 => h9) rfl (by decide +kernel) rfl rfl (Nat.le_of_ble_eq_true rfl) dX6_clearBuffer_2 (ws' := [mdC q (0 : Int32) isShot states length at_ good runs did].flatten) rfl (fun H locs hP hD hS => ?_)
  refine lv_aload_n hx hb dX6_clearBuffer_5 rfl (lv_at hl 0 rfl) ?_
  refine va_get (D := G) (ci := 4) (C := RX6) (T := TX6) (N := 15) hx hb hw in_X6 hown hK hP 0 rfl rfl 10 (by decide) (hw _ aw_881) (fun _ h9 => h9) rfl dX6_clearBuffer_6 ?_
  refine lv_istore_n (lv' := [(1, .int (nI length)), (0, .ref (q 0))]) hx hb dX6_clearBuffer_9 rfl hl (by decide) rfl (fun ls hl => ?_)
  refine lv_aload_n hx hb dX6_clearBuffer_10 rfl (lv_at hl 1 rfl) ?_
  refine lv_iconst (v := 0) hx hb dX6_clearBuffer_11 (by decide) ?_
  refine nv_put (D := G) (ci := 4) (ty := .int) (v := .int (0 : Int32)) (C := RX6) (T := TX6) (N := 15) hx hb hw in_X6 tyX6 tyX6_ok nmX6 hown hK hP hD hS 0 rfl rfl 10 (by decide) (hw _ aw_881) (fun _ h9 => h9) rfl (by decide +kernel) rfl rfl (Nat.le_of_ble_eq_true rfl) dX6_clearBuffer_12 (ws' := [mdC q (0 : Int32) isShot states 0 at_ good runs did].flatten) rfl (fun H locs hP hD hS => ?_)
  refine lv_iload_n hx hb dX6_clearBuffer_15 rfl (lv_at hl 0 rfl) ?_
  rw [← hQQ]; exact W.iret hx hb hr (ct_end (F := (f_X6_clearBuffer length)) (u := ((nI length), (0 : Int32), 0)) (rf := (fun u => some (.int u.1))) (wf := (fun u => [mdC q u.2.1 isShot states u.2.2 at_ good runs did].flatten)) rfl rfl hP hD hS) hS.2.2 dX6_clearBuffer_16
set_option maxRecDepth 100000 in
set_option maxHeartbeats 4000000 in
theorem k_X6_undo (l : Launch) (G : va_G) (cI cS cL : ClassId) (q : Nat → Nat) (refusal : Int32) (isShot : Bool) (states : Nat) (length : Nat) (at_ : Nat) (good : Bool) (runs : Bool) (did : Int32) (now : Nat → Int32) (book : Nat → Int32) (hst : states ≤ 6) (hrf : ¬ (((f_X6_refused (bI (if (nI states) = 0 then true else false))).1) = true)) : Ct l G (tyl cI cS cL) yX6_undo cX6_undo 2 (some (Jvm.ClassFile.FieldType.int)) 1 21 0 0 [.ref (q 0)] [mdC q refusal isShot states length at_ good runs did, rwC (q 1) cI 129 now, rwC (q 4) cI 774 book].flatten (f_X6_undo states now book) (fun u => some (.int u.1)) (fun u => [mdC q u.2.1 isShot u.2.2.1 length at_ good runs did, rwC (q 1) cI 129 u.2.2.2, rwC (q 4) cI 774 book].flatten) := by
  refine Ct.of (by decide +kernel) (Nat.le_of_ble_eq_true rfl) ?_
  intro p e s m args below meth c A ls hx hb hr hml hw hown hlocks hin hK hN hP hD hS hA hl
  have hown : s.vm.findClass RX6 = some m.cls := hown
  have X : Cx p s m args c cX6_undo 2 RX6 G (tyl cI cS cL) := ⟨hx, hb, hml, hown, hw, hK, hN⟩
  have hP : va_P G classes [mdC q refusal isShot states length at_ good runs did, rwC (q 1) cI 129 now, rwC (q 4) cI 774 book].flatten s.heap := hP
  have hl : lv_has ls 2 [(0, .ref (q 0))] := hl
  generalize hQQ : MQ below _ args s 0 0 A = QQ
  refine lv_aload_n hx hb dX6_undo_0 rfl (lv_at hl 0 rfl) ?_
  refine lv_aload_n hx hb dX6_undo_1 rfl (lv_at hl 0 rfl) ?_
  refine va_get (D := G) (ci := 4) (C := RX6) (T := TX6) (N := 15) hx hb hw in_X6 hown hK hP 0 rfl rfl 6 (by decide) (hw _ aw_877) (fun _ h9 => h9) rfl dX6_undo_2 ?_
  have hM_5 : ∀ (v_4 : Bool) (ls : Array Slot) (H : Heap) (locs : List Loc), v_4 = (if (nI states) = 0 then true else false) → lv_has ls 2 [(0, .ref (q 0))] → va_P G classes [mdC q refusal isShot states length at_ good runs did, rwC (q 1) cI 129 now, rwC (q 4) cI 774 book].flatten H → va_D A [mdC q refusal isShot states length at_ good runs did, rwC (q 1) cI 129 now, rwC (q 4) cI 774 book].flatten → va_S A s.heap H locs → W p l e ({ frames := 1, cells := 0, slots := 0, locals := 21 } : Room) s m args below meth c H locs 0 0 QQ (F0 m 13 ls [.int (bI v_4), .ref (q 0)]) := by
    intro v_4 ls H locs e_v_4 hl hP hD hS
    subst e_v_4
    refine ct_callV (As := [.int (bI (if (nI states) = 0 then true else false))]) (rest := []) X hP hD hS hA (k_X6_refused l G cI cS cL q refusal isShot states length at_ good runs did (bI (if (nI states) = 0 then true else false))) cp_X6_refused aw_929 ⟨Nat.le_of_ble_eq_true rfl, Nat.le_of_ble_eq_true rfl⟩ [0] (cs := [mdC q refusal isShot states length at_ good runs did]) rfl (by decide) (cs' := [mdC q ((f_X6_refused (bI (if (nI states) = 0 then true else false))).2) isShot states length at_ good runs did]) rfl rfl 4 rfl rfl (q0 := 0) rfl rfl hl.1 rfl (Nat.le_of_ble_eq_true rfl) dX6_undo_13 ⟨Nat.zero_le _, Nat.zero_le _⟩ rfl (bs' := [mdC q ((f_X6_refused (bI (if (nI states) = 0 then true else false))).2) isShot states length at_ good runs did, rwC (q 1) cI 129 now, rwC (q 4) cI 774 book]) rfl (fun H locs hP hD hS => ?_)
    refine bv_ifeq hx hb ((f_X6_refused (bI (if (nI states) = 0 then true else false))).1) 21 dX6_undo_16 (by decide) (fun c_6 => ?_) (fun c => absurd c hrf)
    refine lv_aload_n hx hb dX6_undo_21 rfl (lv_at hl 0 rfl) ?_
    refine lv_dup hx hb dX6_undo_22 rfl ?_
    refine va_get (D := G) (ci := 4) (C := RX6) (T := TX6) (N := 15) hx hb hw in_X6 hown hK hP 0 rfl rfl 6 (by decide) (hw _ aw_877) (fun _ h9 => h9) rfl dX6_undo_23 ?_
    refine lv_iconst (v := 1) hx hb dX6_undo_26 (by decide) ?_
    refine nv_isub hx hb states 1 (by exact un_pos hrf) dX6_undo_27 ?_
    refine nv_put (D := G) (ci := 4) (ty := .int) (v := .int (nI (states - 1))) (C := RX6) (T := TX6) (N := 15) hx hb hw in_X6 tyX6 tyX6_ok nmX6 hown hK hP hD hS 0 rfl rfl 6 (by decide) (hw _ aw_877) (fun _ h9 => h9) rfl (by decide +kernel) rfl rfl (Nat.le_of_ble_eq_true rfl) dX6_undo_28 (ws' := [mdC q ((f_X6_refused (bI (if (nI states) = 0 then true else false))).2) isShot (states - 1) length at_ good runs did, rwC (q 1) cI 129 now, rwC (q 4) cI 774 book].flatten) rfl (fun H locs hP hD hS => ?_)
    refine lv_iconst (v := 0) hx hb dX6_undo_31 (by decide) ?_
    refine lv_istore_n (lv' := [(1, .int (0 : Int32)), (0, .ref (q 0))]) hx hb dX6_undo_32 rfl hl (by decide) rfl (fun ls hl => ?_)
    refine it_loop (f := (L_X6_undo_33 states book)) 129 (fun (i33 : Nat) (s33 : (Nat → Int32)) => ∀ (ls : Array Slot) (H : Heap) (locs : List Loc), lv_has ls 2 [(1, .int (nI i33)), (0, .ref (q 0))] → va_P G classes [mdC q ((f_X6_refused (bI (if (nI states) = 0 then true else false))).2) isShot (states - 1) length at_ good runs did, rwC (q 1) cI 129 s33, rwC (q 4) cI 774 book].flatten H → va_D A [mdC q ((f_X6_refused (bI (if (nI states) = 0 then true else false))).2) isShot (states - 1) length at_ good runs did, rwC (q 1) cI 129 s33, rwC (q 4) cI 774 book].flatten → va_S A s.heap H locs → W p l e ({ frames := 1, cells := 0, slots := 0, locals := 21 } : Room) s m args below meth c H locs 0 0 QQ (F0 m 33 ls [])) (fun i33 s33 hi33 ih => ?_) 129 0 now (by omega) ?_ ls _ _ (lv_sub hl [0, 1] rfl) hP hD hS
    · intro ls H locs hl hP hD hS
      refine lv_iload_n hx hb dX6_undo_33 rfl (lv_at hl 0 rfl) ?_
      refine lv_sipush (v := 129) hx hb dX6_undo_34 (by decide) ?_
      refine nv_ge hx hb i33 129 67 (by omega) (by omega) dX6_undo_37 (by decide) (fun hc => absurd hc (by omega)) (fun _ => ?_)
      refine lv_aload_n hx hb dX6_undo_40 rfl (lv_at hl 1 rfl) ?_
      refine va_get (D := G) (ci := 4) (C := RX6) (T := TX6) (N := 15) hx hb hw in_X6 hown hK hP 0 rfl rfl 1 (by decide) (hw _ aw_872) (fun _ h9 => h9) rfl dX6_undo_41 ?_
      refine lv_iload_n hx hb dX6_undo_44 rfl (lv_at hl 0 rfl) ?_
      refine lv_aload_n hx hb dX6_undo_45 rfl (lv_at hl 1 rfl) ?_
      refine va_get (D := G) (ci := 4) (C := RX6) (T := TX6) (N := 15) hx hb hw in_X6 hown hK hP 0 rfl rfl 5 (by decide) (hw _ aw_876) (fun _ h9 => h9) rfl dX6_undo_46 ?_
      refine lv_sipush (v := 129) hx hb dX6_undo_49 (by decide) ?_
      refine lv_aload_n hx hb dX6_undo_52 rfl (lv_at hl 1 rfl) ?_
      refine va_get (D := G) (ci := 4) (C := RX6) (T := TX6) (N := 15) hx hb hw in_X6 hown hK hP 0 rfl rfl 6 (by decide) (hw _ aw_877) (fun _ h9 => h9) rfl dX6_undo_53 ?_
      refine nv_imul hx hb 129 (states - 1) dX6_undo_56 ?_
      refine lv_iload_n hx hb dX6_undo_57 rfl (lv_at hl 0 rfl) ?_
      refine nv_iadd hx hb (129 * (states - 1)) i33 dX6_undo_58 ?_
      refine nv_iald hx hb hK hP 2 0 rfl rfl ((129 * (states - 1)) + i33) (by first | omega | (have := un_pos hrf; omega)) (by decide) dX6_undo_59 ?_
      refine nv_iast hx hb hK hP hD hS 1 0 rfl rfl i33 (by first | omega | (have := un_pos hrf; omega)) (by decide) dX6_undo_60 (ws' := [mdC q ((f_X6_refused (bI (if (nI states) = 0 then true else false))).2) isShot (states - 1) length at_ good runs did, rwC (q 1) cI 129 (upd s33 i33 (book ((129 * (states - 1)) + i33))), rwC (q 4) cI 774 book].flatten) rfl (fun H locs hP hD hS => ?_)
      refine nv_iinc (k := 0) (lv' := [(1, .int (nI (i33 + 1))), (0, .ref (q 0))]) hx hb i33 dX6_undo_61 hl rfl (by decide) rfl (fun ls hl => ?_)
      refine lv_goto (tgt := 33) hx hb dX6_undo_64 (by decide) ?_
      exact ih _ _ _ (lv_sub hl [0, 1] rfl) hP hD hS
    · intro ls H locs hl hP hD hS
      refine lv_iload_n hx hb dX6_undo_33 rfl (lv_at hl 0 rfl) ?_
      refine lv_sipush (v := 129) hx hb dX6_undo_34 (by decide) ?_
      refine nv_ge hx hb 129 129 67 (by omega) (by omega) dX6_undo_37 (by decide) (fun _ => ?_) (fun hc => absurd hc (by omega))
      refine lv_aload_n hx hb dX6_undo_67 rfl (lv_at hl 1 rfl) ?_
      refine va_get (D := G) (ci := 4) (C := RX6) (T := TX6) (N := 15) hx hb hw in_X6 hown hK hP 0 rfl rfl 6 (by decide) (hw _ aw_877) (fun _ h9 => h9) rfl dX6_undo_68 ?_
      rw [← hQQ]; exact W.iret hx hb hr (ct_end (F := (f_X6_undo states now book)) (u := ((nI (states - 1)), (f_X6_refused (bI (if (nI states) = 0 then true else false))).2, (states - 1), (it (L_X6_undo_33 states book) 0 129 now))) (rf := (fun u => some (.int u.1))) (wf := (fun u => [mdC q u.2.1 isShot u.2.2.1 length at_ good runs did, rwC (q 1) cI 129 u.2.2.2, rwC (q 4) cI 774 book].flatten)) rfl rfl hP hD hS) hS.2.2 dX6_undo_71
  refine iv_ifne hx hb 12 dX6_undo_5 (by decide) (fun c_1 => ?_) (fun c_1 => ?_)
  · refine lv_iconst (v := 0) hx hb dX6_undo_12 (by decide) ?_
    exact hM_5 false _ _ _ (if_neg c_1).symm (lv_sub hl [0] rfl) hP hD hS
  · refine lv_iconst (v := 1) hx hb dX6_undo_8 (by decide) ?_
    refine lv_goto (tgt := 13) hx hb dX6_undo_9 (by decide) ?_
    exact hM_5 true _ _ _ (if_pos c_1).symm (lv_sub hl [0] rfl) hP hD hS
set_option maxRecDepth 100000 in
set_option maxHeartbeats 4000000 in
theorem k_X6_undo_R (l : Launch) (G : va_G) (cI cS cL : ClassId) (q : Nat → Nat) (refusal : Int32) (isShot : Bool) (states : Nat) (length : Nat) (at_ : Nat) (good : Bool) (runs : Bool) (did : Int32) (now : Nat → Int32) (book : Nat → Int32) (hrf : ((f_X6_refused (bI (if (nI states) = 0 then true else false))).1) = true) : Ct l G (tyl cI cS cL) yX6_undo cX6_undo 2 (some (Jvm.ClassFile.FieldType.int)) 1 21 0 0 [.ref (q 0)] [mdC q refusal isShot states length at_ good runs did, rwC (q 1) cI 129 now, rwC (q 4) cI 774 book].flatten (f_X6_undo_R states) (fun u => some (.int u.1)) (fun u => [mdC q u.2 isShot states length at_ good runs did, rwC (q 1) cI 129 now, rwC (q 4) cI 774 book].flatten) := by
  refine Ct.of (by decide +kernel) (Nat.le_of_ble_eq_true rfl) ?_
  intro p e s m args below meth c A ls hx hb hr hml hw hown hlocks hin hK hN hP hD hS hA hl
  have hown : s.vm.findClass RX6 = some m.cls := hown
  have X : Cx p s m args c cX6_undo 2 RX6 G (tyl cI cS cL) := ⟨hx, hb, hml, hown, hw, hK, hN⟩
  have hP : va_P G classes [mdC q refusal isShot states length at_ good runs did, rwC (q 1) cI 129 now, rwC (q 4) cI 774 book].flatten s.heap := hP
  have hl : lv_has ls 2 [(0, .ref (q 0))] := hl
  generalize hQQ : MQ below _ args s 0 0 A = QQ
  refine lv_aload_n hx hb dX6_undo_0 rfl (lv_at hl 0 rfl) ?_
  refine lv_aload_n hx hb dX6_undo_1 rfl (lv_at hl 0 rfl) ?_
  refine va_get (D := G) (ci := 4) (C := RX6) (T := TX6) (N := 15) hx hb hw in_X6 hown hK hP 0 rfl rfl 6 (by decide) (hw _ aw_877) (fun _ h9 => h9) rfl dX6_undo_2 ?_
  have hM_5 : ∀ (v_4 : Bool) (ls : Array Slot) (H : Heap) (locs : List Loc), v_4 = (if (nI states) = 0 then true else false) → lv_has ls 2 [(0, .ref (q 0))] → va_P G classes [mdC q refusal isShot states length at_ good runs did, rwC (q 1) cI 129 now, rwC (q 4) cI 774 book].flatten H → va_D A [mdC q refusal isShot states length at_ good runs did, rwC (q 1) cI 129 now, rwC (q 4) cI 774 book].flatten → va_S A s.heap H locs → W p l e ({ frames := 1, cells := 0, slots := 0, locals := 21 } : Room) s m args below meth c H locs 0 0 QQ (F0 m 13 ls [.int (bI v_4), .ref (q 0)]) := by
    intro v_4 ls H locs e_v_4 hl hP hD hS
    subst e_v_4
    refine ct_callV (As := [.int (bI (if (nI states) = 0 then true else false))]) (rest := []) X hP hD hS hA (k_X6_refused l G cI cS cL q refusal isShot states length at_ good runs did (bI (if (nI states) = 0 then true else false))) cp_X6_refused aw_929 ⟨Nat.le_of_ble_eq_true rfl, Nat.le_of_ble_eq_true rfl⟩ [0] (cs := [mdC q refusal isShot states length at_ good runs did]) rfl (by decide) (cs' := [mdC q ((f_X6_refused (bI (if (nI states) = 0 then true else false))).2) isShot states length at_ good runs did]) rfl rfl 4 rfl rfl (q0 := 0) rfl rfl hl.1 rfl (Nat.le_of_ble_eq_true rfl) dX6_undo_13 ⟨Nat.zero_le _, Nat.zero_le _⟩ rfl (bs' := [mdC q ((f_X6_refused (bI (if (nI states) = 0 then true else false))).2) isShot states length at_ good runs did, rwC (q 1) cI 129 now, rwC (q 4) cI 774 book]) rfl (fun H locs hP hD hS => ?_)
    refine bv_ifeq hx hb ((f_X6_refused (bI (if (nI states) = 0 then true else false))).1) 21 dX6_undo_16 (by decide) (fun c => absurd hrf c) (fun c_6 => ?_)
    refine lv_iconst (v := 0) hx hb dX6_undo_19 (by decide) ?_
    rw [← hQQ]; exact W.iret hx hb hr (ct_end (F := (f_X6_undo_R states)) (u := ((0 : Int32), (f_X6_refused (bI (if (nI states) = 0 then true else false))).2)) (rf := (fun u => some (.int u.1))) (wf := (fun u => [mdC q u.2 isShot states length at_ good runs did, rwC (q 1) cI 129 now, rwC (q 4) cI 774 book].flatten)) rfl rfl hP hD hS) hS.2.2 dX6_undo_20
  refine iv_ifne hx hb 12 dX6_undo_5 (by decide) (fun c_1 => ?_) (fun c_1 => ?_)
  · refine lv_iconst (v := 0) hx hb dX6_undo_12 (by decide) ?_
    exact hM_5 false _ _ _ (if_neg c_1).symm (lv_sub hl [0] rfl) hP hD hS
  · refine lv_iconst (v := 1) hx hb dX6_undo_8 (by decide) ?_
    refine lv_goto (tgt := 13) hx hb dX6_undo_9 (by decide) ?_
    exact hM_5 true _ _ _ (if_pos c_1).symm (lv_sub hl [0] rfl) hP hD hS
set_option maxRecDepth 100000 in
set_option maxHeartbeats 4000000 in
theorem k_X6_stepShare (l : Launch) (G : va_G) (cI cS cL : ClassId) (q : Nat → Nat) (refusal : Int32) (isShot : Bool) (states : Nat) (length : Nat) (at_ : Nat) (good : Bool) (runs : Bool) (did : Int32) (now : Nat → Int32) (group : Nat → Int32) (hn17 : vf_n64 (FP.ddiv (FP.i2d ((f_X6_greatest group now).1)) (4620693217682128896 : UInt64))) : Ct l G (tyl cI cS cL) yX6_stepShare cX6_stepShare 1 (some (Jvm.ClassFile.FieldType.double)) 5 119 0 0 [.ref (q 0)] [mdC q refusal isShot states length at_ good runs did, rwC (q 1) cI 129 now, rwC (q 6) cI 8 group].flatten (f_X6_stepShare now group) (fun u => some (.double u.1)) (fun u => [mdC q u.2.1 isShot states length at_ good runs did, rwC (q 1) cI 129 now, rwC (q 6) cI 8 u.2.2].flatten) := by
  refine Ct.of (by decide +kernel) (Nat.le_of_ble_eq_true rfl) ?_
  intro p e s m args below meth c A ls hx hb hr hml hw hown hlocks hin hK hN hP hD hS hA hl
  have hown : s.vm.findClass RX6 = some m.cls := hown
  have X : Cx p s m args c cX6_stepShare 1 RX6 G (tyl cI cS cL) := ⟨hx, hb, hml, hown, hw, hK, hN⟩
  have hP : va_P G classes [mdC q refusal isShot states length at_ good runs did, rwC (q 1) cI 129 now, rwC (q 6) cI 8 group].flatten s.heap := hP
  have hl : lv_has ls 1 [(0, .ref (q 0))] := hl
  generalize hQQ : MQ below _ args s 0 0 A = QQ
  refine lv_aload_n hx hb dX6_stepShare_0 rfl (lv_at hl 0 rfl) ?_
  refine lv_iconst (v := 0) hx hb dX6_stepShare_1 (by decide) ?_
  refine nv_put (D := G) (ci := 4) (ty := .int) (v := .int (0 : Int32)) (C := RX6) (T := TX6) (N := 15) hx hb hw in_X6 tyX6 tyX6_ok nmX6 hown hK hP hD hS 0 rfl rfl 0 (by decide) (hw _ aw_871) (fun _ h9 => h9) rfl (by decide +kernel) rfl rfl (Nat.le_of_ble_eq_true rfl) dX6_stepShare_2 (ws' := [mdC q (0 : Int32) isShot states length at_ good runs did, rwC (q 1) cI 129 now, rwC (q 6) cI 8 group].flatten) rfl (fun H locs hP hD hS => ?_)
  refine lv_aload_n hx hb dX6_stepShare_5 rfl (lv_at hl 0 rfl) ?_
  refine lv_aload_n hx hb dX6_stepShare_6 rfl (lv_at hl 0 rfl) ?_
  refine va_get (D := G) (ci := 4) (C := RX6) (T := TX6) (N := 15) hx hb hw in_X6 hown hK hP 0 rfl rfl 1 (by decide) (hw _ aw_872) (fun _ h9 => h9) rfl dX6_stepShare_7 ?_
  refine ct_callV (As := [.ref (q 1)]) (rest := []) X hP hD hS hA (k_X6_greatest l G cI cS cL q (q 1) (0 : Int32) isShot states length at_ good runs did group now) cp_X6_greatest aw_1160 ⟨Nat.le_of_ble_eq_true rfl, Nat.le_of_ble_eq_true rfl⟩ [0, 2, 1] (cs := [mdC q (0 : Int32) isShot states length at_ good runs did, rwC (q 6) cI 8 group, rwC (q 1) cI 129 now]) rfl (by decide) (cs' := [mdC q (0 : Int32) isShot states length at_ good runs did, rwC (q 6) cI 8 ((f_X6_greatest group now).2), rwC (q 1) cI 129 now]) rfl rfl 4 rfl rfl (q0 := 0) rfl rfl hl.1 rfl (Nat.le_of_ble_eq_true rfl) dX6_stepShare_10 ⟨Nat.zero_le _, Nat.zero_le _⟩ rfl (bs' := [mdC q (0 : Int32) isShot states length at_ good runs did, rwC (q 1) cI 129 now, rwC (q 6) cI 8 ((f_X6_greatest group now).2)]) rfl (fun H locs hP hD hS => ?_)
  refine lv_i2d hx hb dX6_stepShare_13 ?_
  refine lv_ldc2d hx hb hown (hw _ aw_1200) dX6_stepShare_14 ?_
  refine lv_ddiv hx hb dX6_stepShare_17 hn17 ?_
  rw [← hQQ]; exact W.dret hx hb hr (ct_end (F := (f_X6_stepShare now group)) (u := ((FP.ddiv (FP.i2d ((f_X6_greatest group now).1)) (4620693217682128896 : UInt64)), (0 : Int32), (f_X6_greatest group now).2)) (rf := (fun u => some (.double u.1))) (wf := (fun u => [mdC q u.2.1 isShot states length at_ good runs did, rwC (q 1) cI 129 now, rwC (q 6) cI 8 u.2.2].flatten)) rfl rfl hP hD hS) hS.2.2 dX6_stepShare_18
set_option maxRecDepth 100000 in
set_option maxHeartbeats 4000000 in
theorem k_X6_allGaps (l : Launch) (G : va_G) (cI cS cL : ClassId) (q : Nat → Nat) (refusal : Int32) (isShot : Bool) (states : Nat) (length : Nat) (at_ : Nat) (good : Bool) (runs : Bool) (did : Int32) (now : Nat → Int32) (hI : InvB now) : Ct l G (tyl cI cS cL) yX6_allGaps cX6_allGaps 1 (some (Jvm.ClassFile.FieldType.int)) 4 97 0 0 [.ref (q 0)] [mdC q refusal isShot states length at_ good runs did, rwC (q 1) cI 129 now].flatten (f_X6_allGaps now) (fun u => some (.int u)) (fun _ => [mdC q refusal isShot states length at_ good runs did, rwC (q 1) cI 129 now].flatten) := by
  refine Ct.of (by decide +kernel) (Nat.le_of_ble_eq_true rfl) ?_
  intro p e s m args below meth c A ls hx hb hr hml hw hown hlocks hin hK hN hP hD hS hA hl
  have hown : s.vm.findClass RX6 = some m.cls := hown
  have X : Cx p s m args c cX6_allGaps 1 RX6 G (tyl cI cS cL) := ⟨hx, hb, hml, hown, hw, hK, hN⟩
  have hP : va_P G classes [mdC q refusal isShot states length at_ good runs did, rwC (q 1) cI 129 now].flatten s.heap := hP
  have hl : lv_has ls 1 [(0, .ref (q 0))] := hl
  generalize hQQ : MQ below _ args s 0 0 A = QQ
  refine lv_aload_n hx hb dX6_allGaps_0 rfl (lv_at hl 0 rfl) ?_
  refine lv_iconst (v := 0) hx hb dX6_allGaps_1 (by decide) ?_
  refine lv_iconst (v := 4) hx hb dX6_allGaps_2 (by decide) ?_
  refine ct_callV (As := [.int (0 : Int32), .int (4 : Int32)]) (rest := []) X hP hD hS hA (k_X6_tellBeam l G cI cS cL q refusal isShot states length at_ good runs did now 0 (4 : Int32) (by omega) hI) cp_X6_tellBeam aw_1128 ⟨Nat.le_of_ble_eq_true rfl, Nat.le_of_ble_eq_true rfl⟩ [0, 1] (cs := [mdC q refusal isShot states length at_ good runs did, rwC (q 1) cI 129 now]) rfl (by decide) (cs' := [mdC q refusal isShot states length at_ good runs did, rwC (q 1) cI 129 now]) rfl rfl 4 rfl rfl (q0 := 0) rfl rfl hl.1 rfl (Nat.le_of_ble_eq_true rfl) dX6_allGaps_3 ⟨Nat.zero_le _, Nat.zero_le _⟩ rfl (bs' := [mdC q refusal isShot states length at_ good runs did, rwC (q 1) cI 129 now]) rfl (fun H locs hP hD hS => ?_)
  refine lv_aload_n hx hb dX6_allGaps_6 rfl (lv_at hl 0 rfl) ?_
  refine lv_iconst (v := 1) hx hb dX6_allGaps_7 (by decide) ?_
  refine lv_iconst (v := 4) hx hb dX6_allGaps_8 (by decide) ?_
  refine ct_callV (As := [.int (1 : Int32), .int (4 : Int32)]) (rest := [.int (f_X6_tellBeam now 0 (4 : Int32))]) X hP hD hS hA (k_X6_tellBeam l G cI cS cL q refusal isShot states length at_ good runs did now 1 (4 : Int32) (by omega) hI) cp_X6_tellBeam aw_1128 ⟨Nat.le_of_ble_eq_true rfl, Nat.le_of_ble_eq_true rfl⟩ [0, 1] (cs := [mdC q refusal isShot states length at_ good runs did, rwC (q 1) cI 129 now]) rfl (by decide) (cs' := [mdC q refusal isShot states length at_ good runs did, rwC (q 1) cI 129 now]) rfl rfl 4 rfl rfl (q0 := 0) rfl rfl hl.1 rfl (Nat.le_of_ble_eq_true rfl) dX6_allGaps_9 ⟨Nat.zero_le _, Nat.zero_le _⟩ rfl (bs' := [mdC q refusal isShot states length at_ good runs did, rwC (q 1) cI 129 now]) rfl (fun H locs hP hD hS => ?_)
  refine lv_iadd hx hb dX6_allGaps_12 ?_
  refine lv_aload_n hx hb dX6_allGaps_13 rfl (lv_at hl 0 rfl) ?_
  refine lv_iconst (v := 2) hx hb dX6_allGaps_14 (by decide) ?_
  refine lv_iconst (v := 4) hx hb dX6_allGaps_15 (by decide) ?_
  refine ct_callV (As := [.int (2 : Int32), .int (4 : Int32)]) (rest := [.int ((f_X6_tellBeam now 0 (4 : Int32)) + (f_X6_tellBeam now 1 (4 : Int32)))]) X hP hD hS hA (k_X6_tellBeam l G cI cS cL q refusal isShot states length at_ good runs did now 2 (4 : Int32) (by omega) hI) cp_X6_tellBeam aw_1128 ⟨Nat.le_of_ble_eq_true rfl, Nat.le_of_ble_eq_true rfl⟩ [0, 1] (cs := [mdC q refusal isShot states length at_ good runs did, rwC (q 1) cI 129 now]) rfl (by decide) (cs' := [mdC q refusal isShot states length at_ good runs did, rwC (q 1) cI 129 now]) rfl rfl 4 rfl rfl (q0 := 0) rfl rfl hl.1 rfl (Nat.le_of_ble_eq_true rfl) dX6_allGaps_16 ⟨Nat.zero_le _, Nat.zero_le _⟩ rfl (bs' := [mdC q refusal isShot states length at_ good runs did, rwC (q 1) cI 129 now]) rfl (fun H locs hP hD hS => ?_)
  refine lv_iadd hx hb dX6_allGaps_19 ?_
  rw [← hQQ]; exact W.iret hx hb hr (ct_end (F := (f_X6_allGaps now)) (u := (((f_X6_tellBeam now 0 (4 : Int32)) + (f_X6_tellBeam now 1 (4 : Int32))) + (f_X6_tellBeam now 2 (4 : Int32)))) (rf := (fun u => some (.int u))) (wf := (fun _ => [mdC q refusal isShot states length at_ good runs did, rwC (q 1) cI 129 now].flatten)) rfl rfl hP hD hS) hS.2.2 dX6_allGaps_20
set_option maxRecDepth 100000 in
set_option maxHeartbeats 4000000 in
theorem k_X6_meanGap (l : Launch) (G : va_G) (cI cS cL : ClassId) (q : Nat → Nat) (refusal : Int32) (isShot : Bool) (states : Nat) (length : Nat) (at_ : Nat) (good : Bool) (runs : Bool) (did : Int32) (now : Nat → Int32) (hI : InvB now) (hn12 : vf_n32 (FP.fdiv (FP.i2f (f_X6_allGaps now)) (1077936128 : UInt32))) : Ct l G (tyl cI cS cL) yX6_meanGap cX6_meanGap 1 (some (Jvm.ClassFile.FieldType.float)) 5 117 0 0 [.ref (q 0)] [mdC q refusal isShot states length at_ good runs did, rwC (q 1) cI 129 now].flatten (f_X6_meanGap now) (fun u => some (.float u.1)) (fun u => [mdC q u.2 isShot states length at_ good runs did, rwC (q 1) cI 129 now].flatten) := by
  refine Ct.of (by decide +kernel) (Nat.le_of_ble_eq_true rfl) ?_
  intro p e s m args below meth c A ls hx hb hr hml hw hown hlocks hin hK hN hP hD hS hA hl
  have hown : s.vm.findClass RX6 = some m.cls := hown
  have X : Cx p s m args c cX6_meanGap 1 RX6 G (tyl cI cS cL) := ⟨hx, hb, hml, hown, hw, hK, hN⟩
  have hP : va_P G classes [mdC q refusal isShot states length at_ good runs did, rwC (q 1) cI 129 now].flatten s.heap := hP
  have hl : lv_has ls 1 [(0, .ref (q 0))] := hl
  generalize hQQ : MQ below _ args s 0 0 A = QQ
  refine lv_aload_n hx hb dX6_meanGap_0 rfl (lv_at hl 0 rfl) ?_
  refine lv_iconst (v := 0) hx hb dX6_meanGap_1 (by decide) ?_
  refine nv_put (D := G) (ci := 4) (ty := .int) (v := .int (0 : Int32)) (C := RX6) (T := TX6) (N := 15) hx hb hw in_X6 tyX6 tyX6_ok nmX6 hown hK hP hD hS 0 rfl rfl 0 (by decide) (hw _ aw_871) (fun _ h9 => h9) rfl (by decide +kernel) rfl rfl (Nat.le_of_ble_eq_true rfl) dX6_meanGap_2 (ws' := [mdC q (0 : Int32) isShot states length at_ good runs did, rwC (q 1) cI 129 now].flatten) rfl (fun H locs hP hD hS => ?_)
  refine lv_aload_n hx hb dX6_meanGap_5 rfl (lv_at hl 0 rfl) ?_
  refine ct_callV (As := []) (rest := []) X hP hD hS hA (k_X6_allGaps l G cI cS cL q (0 : Int32) isShot states length at_ good runs did now hI) cp_X6_allGaps aw_1205 ⟨Nat.le_of_ble_eq_true rfl, Nat.le_of_ble_eq_true rfl⟩ [0, 1] (cs := [mdC q (0 : Int32) isShot states length at_ good runs did, rwC (q 1) cI 129 now]) rfl (by decide) (cs' := [mdC q (0 : Int32) isShot states length at_ good runs did, rwC (q 1) cI 129 now]) rfl rfl 4 rfl rfl (q0 := 0) rfl rfl hl.1 rfl (Nat.le_of_ble_eq_true rfl) dX6_meanGap_6 ⟨Nat.zero_le _, Nat.zero_le _⟩ rfl (bs' := [mdC q (0 : Int32) isShot states length at_ good runs did, rwC (q 1) cI 129 now]) rfl (fun H locs hP hD hS => ?_)
  refine lv_i2f hx hb dX6_meanGap_9 ?_
  refine lv_ldcf hx hb hown (hw _ aw_1209) dX6_meanGap_10 ?_
  refine lv_fdiv hx hb dX6_meanGap_12 hn12 ?_
  rw [← hQQ]; exact W.fret hx hb hr (ct_end (F := (f_X6_meanGap now)) (u := ((FP.fdiv (FP.i2f (f_X6_allGaps now)) (1077936128 : UInt32)), (0 : Int32))) (rf := (fun u => some (.float u.1))) (wf := (fun u => [mdC q u.2 isShot states length at_ good runs did, rwC (q 1) cI 129 now].flatten)) rfl rfl hP hD hS) hS.2.2 dX6_meanGap_13
set_option maxRecDepth 100000 in
set_option maxHeartbeats 4000000 in
theorem k_Jxe99ae_isNaN_b9ae7 (l : Launch) (G : va_G) (cI cS cL : ClassId) (x : UInt64) : Ct l G (tyl cI cS cL) yJxe99ae_isNaN_b9ae7 cJxe99ae_isNaN_b9ae7 2 (some (Jvm.ClassFile.FieldType.boolean)) 0 0 0 0 [.double x] [].flatten (f_Jxe99ae_isNaN_b9ae7 x) (fun u => some (.int (bI u))) (fun _ => [].flatten) := by
  refine Ct.of (by decide +kernel) (Nat.le_of_ble_eq_true rfl) ?_
  intro p e s m args below meth c A ls hx hb hr hml hw hown hlocks hin hK hN hP hD hS hA hl
  have hown : s.vm.findClass RJxe99ae = some m.cls := hown
  have X : Cx p s m args c cJxe99ae_isNaN_b9ae7 2 RJxe99ae G (tyl cI cS cL) := ⟨hx, hb, hml, hown, hw, hK, hN⟩
  have hP : va_P G classes [].flatten s.heap := hP
  have hl : lv_has ls 2 [(0, .double x)] := hl
  generalize hQQ : MQ below _ args s 0 0 A = QQ
  refine lv_dload_n hx hb dJxe99ae_isNaN_b9ae7_0 rfl (lv_at hl 0 rfl) ?_
  refine lv_dload_n hx hb dJxe99ae_isNaN_b9ae7_1 rfl (lv_at hl 0 rfl) ?_
  refine lv_dcmp hx hb dJxe99ae_isNaN_b9ae7_2 ?_
  have hM_5 : ∀ (v_4 : Bool) (ls : Array Slot) (H : Heap) (locs : List Loc), v_4 = (if (Op.cmpValue (FP.dcmp x x) .l) = 0 then false else true) → lv_has ls 2 [] → va_P G classes [].flatten H → va_D A [].flatten → va_S A s.heap H locs → W p l e ({ frames := 0, cells := 0, slots := 0, locals := 0 } : Room) s m args below meth c H locs 0 0 QQ (F0 m 11 ls [.int (bI v_4)]) := by
    intro v_4 ls H locs e_v_4 hl hP hD hS
    subst e_v_4
    rw [← hQQ]; exact W.zret (v := bI (if (Op.cmpValue (FP.dcmp x x) .l) = 0 then false else true)) hx hb hr (nar_b _) (ct_end (F := (f_Jxe99ae_isNaN_b9ae7 x)) (u := (if (Op.cmpValue (FP.dcmp x x) .l) = 0 then false else true)) (rf := (fun u => some (.int (bI u)))) (wf := (fun _ => [].flatten)) rfl rfl hP hD hS) hS.2.2 dJxe99ae_isNaN_b9ae7_11
  refine lv_if_eq (tgt := 10) hx hb dJxe99ae_isNaN_b9ae7_3 (by decide) (fun c_1 => ?_) (fun c_1 => ?_)
  · refine lv_iconst (v := 0) hx hb dJxe99ae_isNaN_b9ae7_10 (by decide) ?_
    exact hM_5 false _ _ _ (if_pos c_1).symm (lv_sub hl [] rfl) hP hD hS
  · refine lv_iconst (v := 1) hx hb dJxe99ae_isNaN_b9ae7_6 (by decide) ?_
    refine lv_goto (tgt := 11) hx hb dJxe99ae_isNaN_b9ae7_7 (by decide) ?_
    exact hM_5 true _ _ _ (if_neg c_1).symm (lv_sub hl [] rfl) hP hD hS
set_option maxRecDepth 100000 in
set_option maxHeartbeats 4000000 in
theorem k_Jxf58ca_isNaN_12338 (l : Launch) (G : va_G) (cI cS cL : ClassId) (x : UInt32) : Ct l G (tyl cI cS cL) yJxf58ca_isNaN_12338 cJxf58ca_isNaN_12338 1 (some (Jvm.ClassFile.FieldType.boolean)) 0 0 0 0 [.float x] [].flatten (f_Jxf58ca_isNaN_12338 x) (fun u => some (.int (bI u))) (fun _ => [].flatten) := by
  refine Ct.of (by decide +kernel) (Nat.le_of_ble_eq_true rfl) ?_
  intro p e s m args below meth c A ls hx hb hr hml hw hown hlocks hin hK hN hP hD hS hA hl
  have hown : s.vm.findClass RJxf58ca = some m.cls := hown
  have X : Cx p s m args c cJxf58ca_isNaN_12338 1 RJxf58ca G (tyl cI cS cL) := ⟨hx, hb, hml, hown, hw, hK, hN⟩
  have hP : va_P G classes [].flatten s.heap := hP
  have hl : lv_has ls 1 [(0, .float x)] := hl
  generalize hQQ : MQ below _ args s 0 0 A = QQ
  refine lv_fload_n hx hb dJxf58ca_isNaN_12338_0 rfl (lv_at hl 0 rfl) ?_
  refine lv_fload_n hx hb dJxf58ca_isNaN_12338_1 rfl (lv_at hl 0 rfl) ?_
  refine lv_fcmp hx hb dJxf58ca_isNaN_12338_2 ?_
  have hM_5 : ∀ (v_4 : Bool) (ls : Array Slot) (H : Heap) (locs : List Loc), v_4 = (if (Op.cmpValue (FP.fcmp x x) .l) = 0 then false else true) → lv_has ls 1 [] → va_P G classes [].flatten H → va_D A [].flatten → va_S A s.heap H locs → W p l e ({ frames := 0, cells := 0, slots := 0, locals := 0 } : Room) s m args below meth c H locs 0 0 QQ (F0 m 11 ls [.int (bI v_4)]) := by
    intro v_4 ls H locs e_v_4 hl hP hD hS
    subst e_v_4
    rw [← hQQ]; exact W.zret (v := bI (if (Op.cmpValue (FP.fcmp x x) .l) = 0 then false else true)) hx hb hr (nar_b _) (ct_end (F := (f_Jxf58ca_isNaN_12338 x)) (u := (if (Op.cmpValue (FP.fcmp x x) .l) = 0 then false else true)) (rf := (fun u => some (.int (bI u)))) (wf := (fun _ => [].flatten)) rfl rfl hP hD hS) hS.2.2 dJxf58ca_isNaN_12338_11
  refine lv_if_eq (tgt := 10) hx hb dJxf58ca_isNaN_12338_3 (by decide) (fun c_1 => ?_) (fun c_1 => ?_)
  · refine lv_iconst (v := 0) hx hb dJxf58ca_isNaN_12338_10 (by decide) ?_
    exact hM_5 false _ _ _ (if_pos c_1).symm (lv_sub hl [] rfl) hP hD hS
  · refine lv_iconst (v := 1) hx hb dJxf58ca_isNaN_12338_6 (by decide) ?_
    refine lv_goto (tgt := 11) hx hb dJxf58ca_isNaN_12338_7 (by decide) ?_
    exact hM_5 true _ _ _ (if_neg c_1).symm (lv_sub hl [] rfl) hP hD hS
set_option maxRecDepth 100000 in
set_option maxHeartbeats 4000000 in
theorem k_Jxe99ae_doubleToLongBits_ccdee (l : Launch) (G : va_G) (cI cS cL : ClassId) (x : UInt64) : Ct l G (tyl cI cS cL) yJxe99ae_doubleToLongBits_ccdee cJxe99ae_doubleToLongBits_ccdee 2 (some (Jvm.ClassFile.FieldType.long)) 1 21 0 0 [.double x] [].flatten (f_Jxe99ae_doubleToLongBits_ccdee x) (fun u => some (.long u)) (fun _ => [].flatten) := by
  refine Ct.of (by decide +kernel) (Nat.le_of_ble_eq_true rfl) ?_
  intro p e s m args below meth c A ls hx hb hr hml hw hown hlocks hin hK hN hP hD hS hA hl
  have hown : s.vm.findClass RJxe99ae = some m.cls := hown
  have X : Cx p s m args c cJxe99ae_doubleToLongBits_ccdee 2 RJxe99ae G (tyl cI cS cL) := ⟨hx, hb, hml, hown, hw, hK, hN⟩
  have hP : va_P G classes [].flatten s.heap := hP
  have hl : lv_has ls 2 [(0, .double x)] := hl
  generalize hQQ : MQ below _ args s 0 0 A = QQ
  refine lv_dload_n hx hb dJxe99ae_doubleToLongBits_ccdee_0 rfl (lv_at hl 0 rfl) ?_
  refine ct_callS (As := [.double x]) (rest := []) X hP hD hS hA (k_Jxe99ae_isNaN_b9ae7 l G cI cS cL  x) cq_Jxe99ae_isNaN_b9ae7 aw_1219 ⟨Nat.le_of_ble_eq_true rfl, Nat.le_of_ble_eq_true rfl⟩ ([] : List Nat) (cs := []) rfl (by decide) (cs' := []) rfl rfl rfl hl.1 rfl (Nat.le_of_ble_eq_true rfl) dJxe99ae_doubleToLongBits_ccdee_1 ⟨Nat.zero_le _, Nat.zero_le _⟩ rfl (bs' := []) rfl (fun H locs hP hD hS => ?_)
  refine bv_ifne hx hb (f_Jxe99ae_isNaN_b9ae7 x) 12 dJxe99ae_doubleToLongBits_ccdee_4 (by decide) (fun c_1 => ?_) (fun c_1 => ?_)
  · refine lv_ldc2 hx hb hown (hw _ aw_1225) dJxe99ae_doubleToLongBits_ccdee_12 ?_
    rw [← hQQ]; exact W.lret hx hb hr (ct_end (F := (f_Jxe99ae_doubleToLongBits_ccdee x)) (u := (9221120237041090560 : Int64)) (rf := (fun u => some (.long u))) (wf := (fun _ => [].flatten)) (by first | (unfold f_Jxe99ae_doubleToLongBits_ccdee; rw [if_pos c_1]; first | done | rfl) | (unfold f_Jxe99ae_doubleToLongBits_ccdee; simp only [if_pos c_1])) rfl hP hD hS) hS.2.2 dJxe99ae_doubleToLongBits_ccdee_15
  · refine lv_dload_n hx hb dJxe99ae_doubleToLongBits_ccdee_7 rfl (lv_at hl 0 rfl) ?_
    refine vn_d2l hx hb (hml.trans hl.1.symm) hown (hw _ aw_1222) (hw _ aw_1224) (hw _ aw_1223) (hw _ aw_84) (Nat.le_of_ble_eq_true rfl) (Nat.le_of_ble_eq_true rfl) dJxe99ae_doubleToLongBits_ccdee_8 ?_
    rw [← hQQ]; exact W.lret hx hb hr (ct_end (F := (f_Jxe99ae_doubleToLongBits_ccdee x)) (u := (x.toInt64)) (rf := (fun u => some (.long u))) (wf := (fun _ => [].flatten)) (by first | (unfold f_Jxe99ae_doubleToLongBits_ccdee; rw [if_neg c_1]; first | done | rfl) | (unfold f_Jxe99ae_doubleToLongBits_ccdee; simp only [if_neg c_1])) rfl hP hD hS) hS.2.2 dJxe99ae_doubleToLongBits_ccdee_11
set_option maxRecDepth 100000 in
set_option maxHeartbeats 4000000 in
theorem k_Jxf58ca_floatToIntBits_5c35a (l : Launch) (G : va_G) (cI cS cL : ClassId) (x : UInt32) : Ct l G (tyl cI cS cL) yJxf58ca_floatToIntBits_5c35a cJxf58ca_floatToIntBits_5c35a 1 (some (Jvm.ClassFile.FieldType.int)) 1 20 0 0 [.float x] [].flatten (f_Jxf58ca_floatToIntBits_5c35a x) (fun u => some (.int u)) (fun _ => [].flatten) := by
  refine Ct.of (by decide +kernel) (Nat.le_of_ble_eq_true rfl) ?_
  intro p e s m args below meth c A ls hx hb hr hml hw hown hlocks hin hK hN hP hD hS hA hl
  have hown : s.vm.findClass RJxf58ca = some m.cls := hown
  have X : Cx p s m args c cJxf58ca_floatToIntBits_5c35a 1 RJxf58ca G (tyl cI cS cL) := ⟨hx, hb, hml, hown, hw, hK, hN⟩
  have hP : va_P G classes [].flatten s.heap := hP
  have hl : lv_has ls 1 [(0, .float x)] := hl
  generalize hQQ : MQ below _ args s 0 0 A = QQ
  refine lv_fload_n hx hb dJxf58ca_floatToIntBits_5c35a_0 rfl (lv_at hl 0 rfl) ?_
  refine ct_callS (As := [.float x]) (rest := []) X hP hD hS hA (k_Jxf58ca_isNaN_12338 l G cI cS cL  x) cq_Jxf58ca_isNaN_12338 aw_1229 ⟨Nat.le_of_ble_eq_true rfl, Nat.le_of_ble_eq_true rfl⟩ ([] : List Nat) (cs := []) rfl (by decide) (cs' := []) rfl rfl rfl hl.1 rfl (Nat.le_of_ble_eq_true rfl) dJxf58ca_floatToIntBits_5c35a_1 ⟨Nat.zero_le _, Nat.zero_le _⟩ rfl (bs' := []) rfl (fun H locs hP hD hS => ?_)
  refine bv_ifne hx hb (f_Jxf58ca_isNaN_12338 x) 12 dJxf58ca_floatToIntBits_5c35a_4 (by decide) (fun c_1 => ?_) (fun c_1 => ?_)
  · refine lv_ldc hx hb hown (hw _ aw_1235) dJxf58ca_floatToIntBits_5c35a_12 ?_
    rw [← hQQ]; exact W.iret hx hb hr (ct_end (F := (f_Jxf58ca_floatToIntBits_5c35a x)) (u := (2143289344 : Int32)) (rf := (fun u => some (.int u))) (wf := (fun _ => [].flatten)) (by first | (unfold f_Jxf58ca_floatToIntBits_5c35a; rw [if_pos c_1]; first | done | rfl) | (unfold f_Jxf58ca_floatToIntBits_5c35a; simp only [if_pos c_1])) rfl hP hD hS) hS.2.2 dJxf58ca_floatToIntBits_5c35a_14
  · refine lv_fload_n hx hb dJxf58ca_floatToIntBits_5c35a_7 rfl (lv_at hl 0 rfl) ?_
    refine vn_f2i hx hb (hml.trans hl.1.symm) hown (hw _ aw_1232) (hw _ aw_1234) (hw _ aw_1233) (hw _ aw_85) (Nat.le_of_ble_eq_true rfl) (Nat.le_of_ble_eq_true rfl) dJxf58ca_floatToIntBits_5c35a_8 ?_
    rw [← hQQ]; exact W.iret hx hb hr (ct_end (F := (f_Jxf58ca_floatToIntBits_5c35a x)) (u := (x.toInt32)) (rf := (fun u => some (.int u))) (wf := (fun _ => [].flatten)) (by first | (unfold f_Jxf58ca_floatToIntBits_5c35a; rw [if_neg c_1]; first | done | rfl) | (unfold f_Jxf58ca_floatToIntBits_5c35a; simp only [if_neg c_1])) rfl hP hD hS) hS.2.2 dJxf58ca_floatToIntBits_5c35a_11
