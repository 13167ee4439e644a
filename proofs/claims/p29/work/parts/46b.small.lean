def f_L_in (v : Int64) (lo_ : Int64) (hi_ : Int64) : Bool := (if (lg_cmp v lo_) < 0 then false else (if 0 < (lg_cmp v hi_) then false else true))
set_option maxRecDepth 100000 in
set_option maxHeartbeats 4000000 in
theorem k_L_in (l : Launch) (G : va_G) (cI cS cL : ClassId) (v : Int64) (lo_ : Int64) (hi_ : Int64) : Ct l G (tyl cI cS cL) yL_in cL_in 6 (some (Jvm.ClassFile.FieldType.boolean)) 0 0 0 0 [.long v, .long lo_, .long hi_] [].flatten (f_L_in v lo_ hi_) (fun u => some (.int (bI u))) (fun _ => [].flatten) := by
  refine Ct.of (by decide +kernel) (Nat.le_of_ble_eq_true rfl) ?_
  intro p e s m args below meth c A ls hx hb hr hml hw hown hlocks hin hK hN hP hD hS hA hl
  have hown : s.vm.findClass RL = some m.cls := hown
  have X : Cx p s m args c cL_in 6 RL G (tyl cI cS cL) := ⟨hx, hb, hml, hown, hw, hK, hN⟩
  have hP : va_P G classes [].flatten s.heap := hP
  have hl : lv_has ls 6 [(0, .long v), (2, .long lo_), (4, .long hi_)] := hl
  generalize hQQ : MQ below _ args s 0 0 A = QQ
  refine lv_lload_n hx hb dL_in_0 rfl (lv_at hl 0 rfl) ?_
  refine lv_lload_n hx hb dL_in_1 rfl (lv_at hl 1 rfl) ?_
  refine W.lcmp hx hb dL_in_2 ?_
  have hM_10 : ∀ (v_9 : Bool) (ls : Array Slot) (H : Heap) (locs : List Loc), v_9 = (if (lg_cmp v lo_) < 0 then false else (if 0 < (lg_cmp v hi_) then false else true)) → lv_has ls 6 [] → va_P G classes [].flatten H → va_D A [].flatten → va_S A s.heap H locs → W p l e ({ frames := 0, cells := 0, slots := 0, locals := 0 } : Room) s m args below meth c H locs 0 0 QQ (F0 m 18 ls [.int (bI v_9)]) := by
    intro v_9 ls H locs e_v_9 hl hP hD hS
    subst e_v_9
    rw [← hQQ]; exact W.zret (v := bI (if (lg_cmp v lo_) < 0 then false else (if 0 < (lg_cmp v hi_) then false else true))) hx hb hr (nar_b _) (ct_end (F := (f_L_in v lo_ hi_)) (u := (if (lg_cmp v lo_) < 0 then false else (if 0 < (lg_cmp v hi_) then false else true))) (rf := (fun u => some (.int (bI u)))) (wf := (fun _ => [].flatten)) rfl rfl hP hD hS) hS.2.2 dL_in_18
  refine lv_if_lt (tgt := 17) hx hb dL_in_3 (by decide) (fun c_1 => ?_) (fun c_1 => ?_)
  · refine lv_iconst (v := 0) hx hb dL_in_17 (by decide) ?_
    exact hM_10 false _ _ _ (if_pos c_1).symm (lv_sub hl [] rfl) hP hD hS
  · refine lv_lload_n hx hb dL_in_6 rfl (lv_at hl 0 rfl) ?_
    refine lv_lload hx hb dL_in_7 (lv_at hl 2 rfl) ?_
    refine W.lcmp hx hb dL_in_9 ?_
    have hM_7 : ∀ (v_6 : Bool) (ls : Array Slot) (H : Heap) (locs : List Loc), v_6 = (if 0 < (lg_cmp v hi_) then false else true) → lv_has ls 6 [] → va_P G classes [].flatten H → va_D A [].flatten → va_S A s.heap H locs → W p l e ({ frames := 0, cells := 0, slots := 0, locals := 0 } : Room) s m args below meth c H locs 0 0 QQ (F0 m 18 ls [.int (bI v_6)]) := by
      intro v_6 ls H locs e_v_6 hl hP hD hS
      subst e_v_6
      exact hM_10 (if 0 < (lg_cmp v hi_) then false else true) _ _ _ (if_neg c_1).symm (lv_sub hl [] rfl) hP hD hS
    refine lv_if_gt (tgt := 17) hx hb dL_in_10 (by decide) (fun c_3 => ?_) (fun c_3 => ?_)
    · refine lv_iconst (v := 0) hx hb dL_in_17 (by decide) ?_
      exact hM_7 false _ _ _ (if_pos c_3).symm (lv_sub hl [] rfl) hP hD hS
    · refine lv_iconst (v := 1) hx hb dL_in_13 (by decide) ?_
      refine lv_goto (tgt := 18) hx hb dL_in_14 (by decide) ?_
      exact hM_7 true _ _ _ (if_neg c_3).symm (lv_sub hl [] rfl) hP hD hS

set_option maxRecDepth 100000 in
set_option maxHeartbeats 4000000 in
theorem o_errors (l : Launch) (hlt : l.stackTraces = false) (G : va_G) (cI cS cL : ClassId) (ad : Nat → Nat) (mp : Nat) (q qn qt qs qH qx : Nat → Nat) {o : Ob} (hg : Gd o) {bb : Nat} (hI : IA bb (aob o)) : CtO l G (tyl cI cS cL) ad mp yL_errors (Cond.code yL_errors cL_errors 6 (some .boolean)) 8 184 30 180 [.ref (q 0)] [obC q qn qt qs qH qx cI cS ad o].flatten (fun u => aob u = aob o ∧ Gd u) (fun _ => some (.int (1 : Int32))) (fun u => [obC q qn qt qs qH qx cI cS ad u].flatten) := by
  obtain ⟨A, hab⟩ : ∃ A, aob o = A := ⟨_, rfl⟩
  rw [hab] at hI ⊢
  refine CtO.of (by decide +kernel) (Nat.le_of_ble_eq_true rfl) ?_
  intro p e s m args below meth c A0 ls hx hb hr hml hw hown hlocks hK hN hC hE hP hD hS hA hl
  have hown : s.vm.findClass RL = some m.cls := hown
  have X : Cx p s m args c cL_errors 6 RL G (tyl cI cS cL) := ⟨hx, hb, hml, hown, hw, hK, hN⟩
  have hP : va_P G classes [obC q qn qt qs qH qx cI cS ad o].flatten s.heap := hP
  have hl : lv_has ls 6 [(0, .ref (q 0))] := hl
  generalize hQQ : MQ below _ args s 30 180 A0 = QQ
  refine lv_aload_n hx hb dL_errors_0 rfl (lv_at hl 0 rfl) ?_
  have hc := o_now l G cI cS cL ad mp q qn qt qs qH qx (o := o) hg (by rw [hab]; exact hI.ns)
  rw [hab] at hc
  refine co_callS (As := [.ref (q 0)]) (rest := []) hE hC X hP hD hS hA hc cpS_now aw_199 ⟨Nat.le_of_ble_eq_true rfl, Nat.le_of_ble_eq_true rfl⟩ [0] (cs := [obC q qn qt qs qH qx cI cS ad o]) rfl (by decide) (fun u => [obC q qn qt qs qH qx cI cS ad u]) (fun _ => rfl) (fun _ => rfl) rfl hl.1 rfl (Nat.le_of_ble_eq_true rfl) dL_errors_1 ⟨Nat.le_of_ble_eq_true rfl, Nat.le_of_ble_eq_true rfl⟩ (st1 := fun _ => [.long (nowV A)]) (fun _ => rfl) (fun u => [obC q qn qt qs qH qx cI cS ad u]) (fun _ => rfl) (fun o ho H locs hP hD hS => ?_)
  obtain ⟨hab, hg⟩ := ho
  refine lv_lstore_n (lv' := [(1, .long (nowV A)), (0, .ref (q 0))]) hx hb dL_errors_4 rfl hl (by decide) rfl (fun ls hl => ?_)
  refine lv_aload_n hx hb dL_errors_5 rfl (lv_at hl 1 rfl) ?_
  refine lv_bipush (v := 9) hx hb dL_errors_6 (by decide) ?_
  have hc := oz_count l G cI cS cL ad mp q qn qt qs qH qx (o := o) hg (by rw [hab]; exact hI.ns) (9 : Int32) (by decide)
  rw [hab] at hc
  refine co_callH (As := [.ref (q 0), .int (9 : Int32)]) (rest := []) hE hC X hP hD hS hA hc cpH_count aw_204 ⟨Nat.le_of_ble_eq_true rfl, Nat.le_of_ble_eq_true rfl⟩ [0] (cs := [obC q qn qt qs qH qx cI cS ad o]) rfl (by decide) (fun u => [obC q qn qt qs qH qx cI cS ad u]) (fun _ => rfl) (fun _ => rfl) rfl hl.1 rfl (Nat.le_of_ble_eq_true rfl) dL_errors_8 ⟨Nat.le_of_ble_eq_true rfl, Nat.le_of_ble_eq_true rfl⟩ (st1 := fun _ => [.long (countA A (9 : Int32))]) (fun _ => rfl) (fun u => [obC q qn qt qs qH qx cI cS ad u]) (fun _ => rfl) (fun o ho H locs hP hD hS => ?_)
  obtain ⟨hab, hg⟩ := ho
  refine lv_lstore_n (lv' := [(3, .long (countA A (9 : Int32))), (1, .long (nowV A)), (0, .ref (q 0))]) hx hb dL_errors_11 rfl hl (by decide) rfl (fun ls hl => ?_)
  refine lv_aload_n hx hb dL_errors_12 rfl (lv_at hl 2 rfl) ?_
  refine lv_iconst (v := 0) hx hb dL_errors_13 (by decide) ?_
  have hc := o_pass l hlt G cI cS cL ad mp q qn qt qs qH qx (o := o) hg (0 : Int32)
  rw [hab] at hc
  have ev : (passA A (0 : Int32)) = (rA, A) := by unfold passA; first | rw [if_neg (by decide +kernel)] | rw [if_pos (by decide +kernel), if_neg (by decide +kernel)] | rw [if_pos (by decide +kernel), if_pos (by decide +kernel), if_neg (by decide +kernel)]
  rw [ev] at hc
  refine co_callH (As := [.ref (q 0), .int (0 : Int32)]) (rest := []) hE hC X hP hD hS hA hc cpH_pass aw_465 ⟨Nat.le_of_ble_eq_true rfl, Nat.le_of_ble_eq_true rfl⟩ [0] (cs := [obC q qn qt qs qH qx cI cS ad o]) rfl (by decide) (fun u => [obC q qn qt qs qH qx cI cS ad u]) (fun _ => rfl) (fun _ => rfl) rfl hl.1 rfl (Nat.le_of_ble_eq_true rfl) dL_errors_14 ⟨Nat.le_of_ble_eq_true rfl, Nat.le_of_ble_eq_true rfl⟩ (st1 := fun _ => [.long rA]) (fun _ => rfl) (fun u => [obC q qn qt qs qH qx cI cS ad u]) (fun _ => rfl) (fun o ho H locs hP hD hS => ?_)
  obtain ⟨hab, hg⟩ := ho
  refine lv_ldc2 hx hb hown (hw _ aw_340) dL_errors_17 ?_
  refine W.lcmp hx hb dL_errors_20 ?_
  refine iv_ifne hx hb 429 dL_errors_21 (by decide) (fun c => absurd (lg_self _) c) (fun _ => ?_)
  refine lv_aload_n hx hb dL_errors_24 rfl (lv_at hl 2 rfl) ?_
  refine lv_sipush (v := 201) hx hb dL_errors_25 (by decide) ?_
  have hc := o_pass l hlt G cI cS cL ad mp q qn qt qs qH qx (o := o) hg (201 : Int32)
  rw [hab] at hc
  have ev : (passA A (201 : Int32)) = (rA, A) := by unfold passA; first | rw [if_neg (by decide +kernel)] | rw [if_pos (by decide +kernel), if_neg (by decide +kernel)] | rw [if_pos (by decide +kernel), if_pos (by decide +kernel), if_neg (by decide +kernel)]
  rw [ev] at hc
  refine co_callH (As := [.ref (q 0), .int (201 : Int32)]) (rest := []) hE hC X hP hD hS hA hc cpH_pass aw_465 ⟨Nat.le_of_ble_eq_true rfl, Nat.le_of_ble_eq_true rfl⟩ [0] (cs := [obC q qn qt qs qH qx cI cS ad o]) rfl (by decide) (fun u => [obC q qn qt qs qH qx cI cS ad u]) (fun _ => rfl) (fun _ => rfl) rfl hl.1 rfl (Nat.le_of_ble_eq_true rfl) dL_errors_28 ⟨Nat.le_of_ble_eq_true rfl, Nat.le_of_ble_eq_true rfl⟩ (st1 := fun _ => [.long rA]) (fun _ => rfl) (fun u => [obC q qn qt qs qH qx cI cS ad u]) (fun _ => rfl) (fun o ho H locs hP hD hS => ?_)
  obtain ⟨hab, hg⟩ := ho
  refine lv_ldc2 hx hb hown (hw _ aw_340) dL_errors_31 ?_
  refine W.lcmp hx hb dL_errors_34 ?_
  refine iv_ifne hx hb 429 dL_errors_35 (by decide) (fun c => absurd (lg_self _) c) (fun _ => ?_)
  refine lv_aload_n hx hb dL_errors_38 rfl (lv_at hl 2 rfl) ?_
  refine lv_bipush (v := 8) hx hb dL_errors_39 (by decide) ?_
  refine lv_iconst (v := 0) hx hb dL_errors_41 (by decide) ?_
  have hc := o_kick l hlt G cI cS cL ad mp q qn qt qs qH qx (o := o) hg (8 : Int32) (0 : Int32)
  rw [hab] at hc
  have ev : (kickA A (8 : Int32) (0 : Int32)) = (rI, A) := by unfold kickA; first | rw [if_neg (by decide +kernel)] | rw [if_pos (by decide +kernel), if_neg (by decide +kernel)] | rw [if_pos (by decide +kernel), if_pos (by decide +kernel), if_neg (by decide +kernel)]
  rw [ev] at hc
  refine co_callH (As := [.ref (q 0), .int (8 : Int32), .int (0 : Int32)]) (rest := []) hE hC X hP hD hS hA hc cpH_kick aw_515 ⟨Nat.le_of_ble_eq_true rfl, Nat.le_of_ble_eq_true rfl⟩ [0] (cs := [obC q qn qt qs qH qx cI cS ad o]) rfl (by decide) (fun u => [obC q qn qt qs qH qx cI cS ad u]) (fun _ => rfl) (fun _ => rfl) rfl hl.1 rfl (Nat.le_of_ble_eq_true rfl) dL_errors_42 ⟨Nat.le_of_ble_eq_true rfl, Nat.le_of_ble_eq_true rfl⟩ (st1 := fun _ => [.long rI]) (fun _ => rfl) (fun u => [obC q qn qt qs qH qx cI cS ad u]) (fun _ => rfl) (fun o ho H locs hP hD hS => ?_)
  obtain ⟨hab, hg⟩ := ho
  refine lv_ldc2 hx hb hown (hw _ aw_395) dL_errors_45 ?_
  refine W.lcmp hx hb dL_errors_48 ?_
  refine iv_ifne hx hb 429 dL_errors_49 (by decide) (fun c => absurd (lg_self _) c) (fun _ => ?_)
  refine lv_aload_n hx hb dL_errors_52 rfl (lv_at hl 2 rfl) ?_
  refine lv_bipush (v := 7) hx hb dL_errors_53 (by decide) ?_
  refine lv_iconst (v := 0) hx hb dL_errors_55 (by decide) ?_
  have hc := o_kick l hlt G cI cS cL ad mp q qn qt qs qH qx (o := o) hg (7 : Int32) (0 : Int32)
  rw [hab] at hc
  have ev : (kickA A (7 : Int32) (0 : Int32)) = (rA, A) := by unfold kickA; first | rw [if_neg (by decide +kernel)] | rw [if_pos (by decide +kernel), if_neg (by decide +kernel)] | rw [if_pos (by decide +kernel), if_pos (by decide +kernel), if_neg (by decide +kernel)]
  rw [ev] at hc
  refine co_callH (As := [.ref (q 0), .int (7 : Int32), .int (0 : Int32)]) (rest := []) hE hC X hP hD hS hA hc cpH_kick aw_515 ⟨Nat.le_of_ble_eq_true rfl, Nat.le_of_ble_eq_true rfl⟩ [0] (cs := [obC q qn qt qs qH qx cI cS ad o]) rfl (by decide) (fun u => [obC q qn qt qs qH qx cI cS ad u]) (fun _ => rfl) (fun _ => rfl) rfl hl.1 rfl (Nat.le_of_ble_eq_true rfl) dL_errors_56 ⟨Nat.le_of_ble_eq_true rfl, Nat.le_of_ble_eq_true rfl⟩ (st1 := fun _ => [.long rA]) (fun _ => rfl) (fun u => [obC q qn qt qs qH qx cI cS ad u]) (fun _ => rfl) (fun o ho H locs hP hD hS => ?_)
  obtain ⟨hab, hg⟩ := ho
  refine lv_ldc2 hx hb hown (hw _ aw_340) dL_errors_59 ?_
  refine W.lcmp hx hb dL_errors_62 ?_
  refine iv_ifne hx hb 429 dL_errors_63 (by decide) (fun c => absurd (lg_self _) c) (fun _ => ?_)
  refine lv_aload_n hx hb dL_errors_66 rfl (lv_at hl 2 rfl) ?_
  refine lv_iconst (v := 0) hx hb dL_errors_67 (by decide) ?_
  refine lv_sipush (v := -501) hx hb dL_errors_68 (by decide) ?_
  have hc := o_kick l hlt G cI cS cL ad mp q qn qt qs qH qx (o := o) hg (0 : Int32) (-501 : Int32)
  rw [hab] at hc
  have ev : (kickA A (0 : Int32) (-501 : Int32)) = (rA, A) := by unfold kickA; first | rw [if_neg (by decide +kernel)] | rw [if_pos (by decide +kernel), if_neg (by decide +kernel)] | rw [if_pos (by decide +kernel), if_pos (by decide +kernel), if_neg (by decide +kernel)]
  rw [ev] at hc
  refine co_callH (As := [.ref (q 0), .int (0 : Int32), .int (-501 : Int32)]) (rest := []) hE hC X hP hD hS hA hc cpH_kick aw_515 ⟨Nat.le_of_ble_eq_true rfl, Nat.le_of_ble_eq_true rfl⟩ [0] (cs := [obC q qn qt qs qH qx cI cS ad o]) rfl (by decide) (fun u => [obC q qn qt qs qH qx cI cS ad u]) (fun _ => rfl) (fun _ => rfl) rfl hl.1 rfl (Nat.le_of_ble_eq_true rfl) dL_errors_71 ⟨Nat.le_of_ble_eq_true rfl, Nat.le_of_ble_eq_true rfl⟩ (st1 := fun _ => [.long rA]) (fun _ => rfl) (fun u => [obC q qn qt qs qH qx cI cS ad u]) (fun _ => rfl) (fun o ho H locs hP hD hS => ?_)
  obtain ⟨hab, hg⟩ := ho
  refine lv_ldc2 hx hb hown (hw _ aw_340) dL_errors_74 ?_
  refine W.lcmp hx hb dL_errors_77 ?_
  refine iv_ifne hx hb 429 dL_errors_78 (by decide) (fun c => absurd (lg_self _) c) (fun _ => ?_)
  refine lv_aload_n hx hb dL_errors_81 rfl (lv_at hl 2 rfl) ?_
  refine lv_iconst (v := -1) hx hb dL_errors_82 (by decide) ?_
  refine lv_iconst (v := 0) hx hb dL_errors_83 (by decide) ?_
  have hc := o_move l hlt G cI cS cL ad mp q qn qt qs qH qx (o := o) hg (-1 : Int32) (0 : Int32)
  rw [hab] at hc
  have ev : (moveA A (-1 : Int32) (0 : Int32)) = (rI, A) := by unfold moveA; first | rw [if_neg (by decide +kernel)] | rw [if_pos (by decide +kernel), if_neg (by decide +kernel)] | rw [if_pos (by decide +kernel), if_pos (by decide +kernel), if_neg (by decide +kernel)]
  rw [ev] at hc
  refine co_callH (As := [.ref (q 0), .int (-1 : Int32), .int (0 : Int32)]) (rest := []) hE hC X hP hD hS hA hc cpH_move aw_530 ⟨Nat.le_of_ble_eq_true rfl, Nat.le_of_ble_eq_true rfl⟩ [0] (cs := [obC q qn qt qs qH qx cI cS ad o]) rfl (by decide) (fun u => [obC q qn qt qs qH qx cI cS ad u]) (fun _ => rfl) (fun _ => rfl) rfl hl.1 rfl (Nat.le_of_ble_eq_true rfl) dL_errors_84 ⟨Nat.le_of_ble_eq_true rfl, Nat.le_of_ble_eq_true rfl⟩ (st1 := fun _ => [.long rI]) (fun _ => rfl) (fun u => [obC q qn qt qs qH qx cI cS ad u]) (fun _ => rfl) (fun o ho H locs hP hD hS => ?_)
  obtain ⟨hab, hg⟩ := ho
  refine lv_ldc2 hx hb hown (hw _ aw_395) dL_errors_87 ?_
  refine W.lcmp hx hb dL_errors_90 ?_
  refine iv_ifne hx hb 429 dL_errors_91 (by decide) (fun c => absurd (lg_self _) c) (fun _ => ?_)
  refine lv_aload_n hx hb dL_errors_94 rfl (lv_at hl 2 rfl) ?_
  refine lv_iconst (v := 0) hx hb dL_errors_95 (by decide) ?_
  refine lv_iconst (v := 3) hx hb dL_errors_96 (by decide) ?_
  have hc := o_move l hlt G cI cS cL ad mp q qn qt qs qH qx (o := o) hg (0 : Int32) (3 : Int32)
  rw [hab] at hc
  have ev : (moveA A (0 : Int32) (3 : Int32)) = (rI, A) := by unfold moveA; first | rw [if_neg (by decide +kernel)] | rw [if_pos (by decide +kernel), if_neg (by decide +kernel)] | rw [if_pos (by decide +kernel), if_pos (by decide +kernel), if_neg (by decide +kernel)]
  rw [ev] at hc
  refine co_callH (As := [.ref (q 0), .int (0 : Int32), .int (3 : Int32)]) (rest := []) hE hC X hP hD hS hA hc cpH_move aw_530 ⟨Nat.le_of_ble_eq_true rfl, Nat.le_of_ble_eq_true rfl⟩ [0] (cs := [obC q qn qt qs qH qx cI cS ad o]) rfl (by decide) (fun u => [obC q qn qt qs qH qx cI cS ad u]) (fun _ => rfl) (fun _ => rfl) rfl hl.1 rfl (Nat.le_of_ble_eq_true rfl) dL_errors_97 ⟨Nat.le_of_ble_eq_true rfl, Nat.le_of_ble_eq_true rfl⟩ (st1 := fun _ => [.long rI]) (fun _ => rfl) (fun u => [obC q qn qt qs qH qx cI cS ad u]) (fun _ => rfl) (fun o ho H locs hP hD hS => ?_)
  obtain ⟨hab, hg⟩ := ho
  refine lv_ldc2 hx hb hown (hw _ aw_395) dL_errors_100 ?_
  refine W.lcmp hx hb dL_errors_103 ?_
  refine iv_ifne hx hb 429 dL_errors_104 (by decide) (fun c => absurd (lg_self _) c) (fun _ => ?_)
  refine lv_aload_n hx hb dL_errors_107 rfl (lv_at hl 2 rfl) ?_
  refine lv_iconst (v := 5) hx hb dL_errors_108 (by decide) ?_
  refine lv_aload_n hx hb dL_errors_109 rfl (lv_at hl 2 rfl) ?_
  refine lv_iconst (v := 5) hx hb dL_errors_110 (by decide) ?_
  refine lv_iconst (v := 0) hx hb dL_errors_111 (by decide) ?_
  have hc := oz_clock l G cI cS cL ad mp q qn qt qs qH qx (o := o) hg (5 : Int32) (0 : Int32) (by decide +kernel) (by decide)
  rw [hab] at hc
  refine co_callH (As := [.ref (q 0), .int (5 : Int32), .int (0 : Int32)]) (rest := [.int (5 : Int32), .ref (q 0)]) hE hC X hP hD hS hA hc cpH_clock aw_341 ⟨Nat.le_of_ble_eq_true rfl, Nat.le_of_ble_eq_true rfl⟩ [0] (cs := [obC q qn qt qs qH qx cI cS ad o]) rfl (by decide) (fun u => [obC q qn qt qs qH qx cI cS ad u]) (fun _ => rfl) (fun _ => rfl) rfl hl.1 rfl (Nat.le_of_ble_eq_true rfl) dL_errors_112 ⟨Nat.le_of_ble_eq_true rfl, Nat.le_of_ble_eq_true rfl⟩ (st1 := fun _ => [.long (clockA A (5 : Int32) (0 : Int32)), .int (5 : Int32), .ref (q 0)]) (fun _ => rfl) (fun u => [obC q qn qt qs qH qx cI cS ad u]) (fun _ => rfl) (fun o ho H locs hP hD hS => ?_)
  obtain ⟨hab, hg⟩ := ho
  refine lv_l2i hx hb dL_errors_115 rfl ?_
  have hc := o_move l hlt G cI cS cL ad mp q qn qt qs qH qx (o := o) hg (5 : Int32) ((clockA A (5 : Int32) (0 : Int32)).toInt32)
  rw [hab] at hc
  have ev : (moveA A (5 : Int32) ((clockA A (5 : Int32) (0 : Int32)).toInt32)) = (rS, A) := move_own hI
  rw [ev] at hc
  refine co_callH (As := [.ref (q 0), .int (5 : Int32), .int ((clockA A (5 : Int32) (0 : Int32)).toInt32)]) (rest := []) hE hC X hP hD hS hA hc cpH_move aw_530 ⟨Nat.le_of_ble_eq_true rfl, Nat.le_of_ble_eq_true rfl⟩ [0] (cs := [obC q qn qt qs qH qx cI cS ad o]) rfl (by decide) (fun u => [obC q qn qt qs qH qx cI cS ad u]) (fun _ => rfl) (fun _ => rfl) rfl hl.1 rfl (Nat.le_of_ble_eq_true rfl) dL_errors_116 ⟨Nat.le_of_ble_eq_true rfl, Nat.le_of_ble_eq_true rfl⟩ (st1 := fun _ => [.long rS]) (fun _ => rfl) (fun u => [obC q qn qt qs qH qx cI cS ad u]) (fun _ => rfl) (fun o ho H locs hP hD hS => ?_)
  obtain ⟨hab, hg⟩ := ho
  refine lv_ldc2 hx hb hown (hw _ aw_561) dL_errors_119 ?_
  refine W.lcmp hx hb dL_errors_122 ?_
  refine iv_ifne hx hb 429 dL_errors_123 (by decide) (fun c => absurd (lg_self _) c) (fun _ => ?_)
  refine lv_aload_n hx hb dL_errors_126 rfl (lv_at hl 2 rfl) ?_
  refine lv_bipush (v := 8) hx hb dL_errors_127 (by decide) ?_
  have hc := o_wind l hlt G cI cS cL ad mp q qn qt qs qH qx (o := o) hg (8 : Int32)
  rw [hab] at hc
  have ev : (windA A (8 : Int32)) = (rI, A) := by unfold windA; first | rw [if_neg (by decide +kernel)] | rw [if_pos (by decide +kernel), if_neg (by decide +kernel)] | rw [if_pos (by decide +kernel), if_pos (by decide +kernel), if_neg (by decide +kernel)]
  rw [ev] at hc
  refine co_callH (As := [.ref (q 0), .int (8 : Int32)]) (rest := []) hE hC X hP hD hS hA hc cpH_wind aw_562 ⟨Nat.le_of_ble_eq_true rfl, Nat.le_of_ble_eq_true rfl⟩ [0] (cs := [obC q qn qt qs qH qx cI cS ad o]) rfl (by decide) (fun u => [obC q qn qt qs qH qx cI cS ad u]) (fun _ => rfl) (fun _ => rfl) rfl hl.1 rfl (Nat.le_of_ble_eq_true rfl) dL_errors_129 ⟨Nat.le_of_ble_eq_true rfl, Nat.le_of_ble_eq_true rfl⟩ (st1 := fun _ => [.long rI]) (fun _ => rfl) (fun u => [obC q qn qt qs qH qx cI cS ad u]) (fun _ => rfl) (fun o ho H locs hP hD hS => ?_)
  obtain ⟨hab, hg⟩ := ho
  refine lv_ldc2 hx hb hown (hw _ aw_395) dL_errors_132 ?_
  refine W.lcmp hx hb dL_errors_135 ?_
  refine iv_ifne hx hb 429 dL_errors_136 (by decide) (fun c => absurd (lg_self _) c) (fun _ => ?_)
  refine lv_aload_n hx hb dL_errors_139 rfl (lv_at hl 2 rfl) ?_
  refine lv_bipush (v := 8) hx hb dL_errors_140 (by decide) ?_
  refine lv_bipush (v := 9) hx hb dL_errors_142 (by decide) ?_
  have hc := o_speed l hlt G cI cS cL ad mp q qn qt qs qH qx (o := o) hg (8 : Int32) (9 : Int32)
  rw [hab] at hc
  have ev : (speedA A (8 : Int32) (9 : Int32)) = (rI, A) := by unfold speedA; first | rw [if_neg (by decide +kernel)] | rw [if_pos (by decide +kernel), if_neg (by decide +kernel)] | rw [if_pos (by decide +kernel), if_pos (by decide +kernel), if_neg (by decide +kernel)]
  rw [ev] at hc
  refine co_callH (As := [.ref (q 0), .int (8 : Int32), .int (9 : Int32)]) (rest := []) hE hC X hP hD hS hA hc cpH_speed aw_573 ⟨Nat.le_of_ble_eq_true rfl, Nat.le_of_ble_eq_true rfl⟩ [0] (cs := [obC q qn qt qs qH qx cI cS ad o]) rfl (by decide) (fun u => [obC q qn qt qs qH qx cI cS ad u]) (fun _ => rfl) (fun _ => rfl) rfl hl.1 rfl (Nat.le_of_ble_eq_true rfl) dL_errors_144 ⟨Nat.le_of_ble_eq_true rfl, Nat.le_of_ble_eq_true rfl⟩ (st1 := fun _ => [.long rI]) (fun _ => rfl) (fun u => [obC q qn qt qs qH qx cI cS ad u]) (fun _ => rfl) (fun o ho H locs hP hD hS => ?_)
  obtain ⟨hab, hg⟩ := ho
  refine lv_ldc2 hx hb hown (hw _ aw_395) dL_errors_147 ?_
  refine W.lcmp hx hb dL_errors_150 ?_
  refine iv_ifne hx hb 429 dL_errors_151 (by decide) (fun c => absurd (lg_self _) c) (fun _ => ?_)
  refine lv_aload_n hx hb dL_errors_154 rfl (lv_at hl 2 rfl) ?_
  refine lv_iconst (v := 0) hx hb dL_errors_155 (by decide) ?_
  refine lv_bipush (v := 9) hx hb dL_errors_156 (by decide) ?_
  have hc := o_speed l hlt G cI cS cL ad mp q qn qt qs qH qx (o := o) hg (0 : Int32) (9 : Int32)
  rw [hab] at hc
  have ev : (speedA A (0 : Int32) (9 : Int32)) = (rA, A) := by unfold speedA; first | rw [if_neg (by decide +kernel)] | rw [if_pos (by decide +kernel), if_neg (by decide +kernel)] | rw [if_pos (by decide +kernel), if_pos (by decide +kernel), if_neg (by decide +kernel)]
  rw [ev] at hc
  refine co_callH (As := [.ref (q 0), .int (0 : Int32), .int (9 : Int32)]) (rest := []) hE hC X hP hD hS hA hc cpH_speed aw_573 ⟨Nat.le_of_ble_eq_true rfl, Nat.le_of_ble_eq_true rfl⟩ [0] (cs := [obC q qn qt qs qH qx cI cS ad o]) rfl (by decide) (fun u => [obC q qn qt qs qH qx cI cS ad u]) (fun _ => rfl) (fun _ => rfl) rfl hl.1 rfl (Nat.le_of_ble_eq_true rfl) dL_errors_158 ⟨Nat.le_of_ble_eq_true rfl, Nat.le_of_ble_eq_true rfl⟩ (st1 := fun _ => [.long rA]) (fun _ => rfl) (fun u => [obC q qn qt qs qH qx cI cS ad u]) (fun _ => rfl) (fun o ho H locs hP hD hS => ?_)
  obtain ⟨hab, hg⟩ := ho
  refine lv_ldc2 hx hb hown (hw _ aw_340) dL_errors_161 ?_
  refine W.lcmp hx hb dL_errors_164 ?_
  refine iv_ifne hx hb 429 dL_errors_165 (by decide) (fun c => absurd (lg_self _) c) (fun _ => ?_)
  refine lv_aload_n hx hb dL_errors_168 rfl (lv_at hl 2 rfl) ?_
  refine lv_iconst (v := -1) hx hb dL_errors_169 (by decide) ?_
  refine lv_bipush (v := 21) hx hb dL_errors_170 (by decide) ?_
  have hc := o_give l hlt G cI cS cL ad mp q qn qt qs qH qx (o := o) hg (-1 : Int32) (21 : Int32)
  rw [hab] at hc
  have ev : (giveA A (-1 : Int32) (21 : Int32)) = (rI, A) := by unfold giveA; first | rw [if_neg (by decide +kernel)] | rw [if_pos (by decide +kernel), if_neg (by decide +kernel)] | rw [if_pos (by decide +kernel), if_pos (by decide +kernel), if_neg (by decide +kernel)]
  rw [ev] at hc
  refine co_callH (As := [.ref (q 0), .int (-1 : Int32), .int (21 : Int32)]) (rest := []) hE hC X hP hD hS hA hc cpH_give aw_581 ⟨Nat.le_of_ble_eq_true rfl, Nat.le_of_ble_eq_true rfl⟩ [0] (cs := [obC q qn qt qs qH qx cI cS ad o]) rfl (by decide) (fun u => [obC q qn qt qs qH qx cI cS ad u]) (fun _ => rfl) (fun _ => rfl) rfl hl.1 rfl (Nat.le_of_ble_eq_true rfl) dL_errors_172 ⟨Nat.le_of_ble_eq_true rfl, Nat.le_of_ble_eq_true rfl⟩ (st1 := fun _ => [.long rI]) (fun _ => rfl) (fun u => [obC q qn qt qs qH qx cI cS ad u]) (fun _ => rfl) (fun o ho H locs hP hD hS => ?_)
  obtain ⟨hab, hg⟩ := ho
  refine lv_ldc2 hx hb hown (hw _ aw_395) dL_errors_175 ?_
  refine W.lcmp hx hb dL_errors_178 ?_
  refine iv_ifne hx hb 429 dL_errors_179 (by decide) (fun c => absurd (lg_self _) c) (fun _ => ?_)
  refine lv_aload_n hx hb dL_errors_182 rfl (lv_at hl 2 rfl) ?_
  refine lv_iconst (v := 0) hx hb dL_errors_183 (by decide) ?_
  refine lv_bipush (v := 21) hx hb dL_errors_184 (by decide) ?_
  have hc := o_give l hlt G cI cS cL ad mp q qn qt qs qH qx (o := o) hg (0 : Int32) (21 : Int32)
  rw [hab] at hc
  have ev : (giveA A (0 : Int32) (21 : Int32)) = (rA, A) := by unfold giveA; first | rw [if_neg (by decide +kernel)] | rw [if_pos (by decide +kernel), if_neg (by decide +kernel)] | rw [if_pos (by decide +kernel), if_pos (by decide +kernel), if_neg (by decide +kernel)]
  rw [ev] at hc
  refine co_callH (As := [.ref (q 0), .int (0 : Int32), .int (21 : Int32)]) (rest := []) hE hC X hP hD hS hA hc cpH_give aw_581 ⟨Nat.le_of_ble_eq_true rfl, Nat.le_of_ble_eq_true rfl⟩ [0] (cs := [obC q qn qt qs qH qx cI cS ad o]) rfl (by decide) (fun u => [obC q qn qt qs qH qx cI cS ad u]) (fun _ => rfl) (fun _ => rfl) rfl hl.1 rfl (Nat.le_of_ble_eq_true rfl) dL_errors_186 ⟨Nat.le_of_ble_eq_true rfl, Nat.le_of_ble_eq_true rfl⟩ (st1 := fun _ => [.long rA]) (fun _ => rfl) (fun u => [obC q qn qt qs qH qx cI cS ad u]) (fun _ => rfl) (fun o ho H locs hP hD hS => ?_)
  obtain ⟨hab, hg⟩ := ho
  refine lv_ldc2 hx hb hown (hw _ aw_340) dL_errors_189 ?_
  refine W.lcmp hx hb dL_errors_192 ?_
  refine iv_ifne hx hb 429 dL_errors_193 (by decide) (fun c => absurd (lg_self _) c) (fun _ => ?_)
  refine lv_aload_n hx hb dL_errors_196 rfl (lv_at hl 2 rfl) ?_
  refine lv_iconst (v := 3) hx hb dL_errors_197 (by decide) ?_
  refine lv_iconst (v := 0) hx hb dL_errors_198 (by decide) ?_
  have hc := o_set l hlt G cI cS cL ad mp q qn qt qs qH qx (o := o) hg (3 : Int32) (0 : Int32)
  rw [hab] at hc
  have ev : (setA A (3 : Int32) (0 : Int32)) = (rI, A) := by unfold setA; first | rw [if_neg (by decide +kernel)] | rw [if_pos (by decide +kernel), if_neg (by decide +kernel)] | rw [if_pos (by decide +kernel), if_pos (by decide +kernel), if_neg (by decide +kernel)]
  rw [ev] at hc
  refine co_callH (As := [.ref (q 0), .int (3 : Int32), .int (0 : Int32)]) (rest := []) hE hC X hP hD hS hA hc cpH_set aw_589 ⟨Nat.le_of_ble_eq_true rfl, Nat.le_of_ble_eq_true rfl⟩ [0] (cs := [obC q qn qt qs qH qx cI cS ad o]) rfl (by decide) (fun u => [obC q qn qt qs qH qx cI cS ad u]) (fun _ => rfl) (fun _ => rfl) rfl hl.1 rfl (Nat.le_of_ble_eq_true rfl) dL_errors_199 ⟨Nat.le_of_ble_eq_true rfl, Nat.le_of_ble_eq_true rfl⟩ (st1 := fun _ => [.long rI]) (fun _ => rfl) (fun u => [obC q qn qt qs qH qx cI cS ad u]) (fun _ => rfl) (fun o ho H locs hP hD hS => ?_)
  obtain ⟨hab, hg⟩ := ho
  refine lv_ldc2 hx hb hown (hw _ aw_395) dL_errors_202 ?_
  refine W.lcmp hx hb dL_errors_205 ?_
  refine iv_ifne hx hb 429 dL_errors_206 (by decide) (fun c => absurd (lg_self _) c) (fun _ => ?_)
  refine lv_aload_n hx hb dL_errors_209 rfl (lv_at hl 2 rfl) ?_
  refine lv_iconst (v := 0) hx hb dL_errors_210 (by decide) ?_
  refine lv_bipush (v := 51) hx hb dL_errors_211 (by decide) ?_
  have hc := o_set l hlt G cI cS cL ad mp q qn qt qs qH qx (o := o) hg (0 : Int32) (51 : Int32)
  rw [hab] at hc
  have ev : (setA A (0 : Int32) (51 : Int32)) = (rA, A) := by unfold setA; first | rw [if_neg (by decide +kernel)] | rw [if_pos (by decide +kernel), if_neg (by decide +kernel)] | rw [if_pos (by decide +kernel), if_pos (by decide +kernel), if_neg (by decide +kernel)]
  rw [ev] at hc
  refine co_callH (As := [.ref (q 0), .int (0 : Int32), .int (51 : Int32)]) (rest := []) hE hC X hP hD hS hA hc cpH_set aw_589 ⟨Nat.le_of_ble_eq_true rfl, Nat.le_of_ble_eq_true rfl⟩ [0] (cs := [obC q qn qt qs qH qx cI cS ad o]) rfl (by decide) (fun u => [obC q qn qt qs qH qx cI cS ad u]) (fun _ => rfl) (fun _ => rfl) rfl hl.1 rfl (Nat.le_of_ble_eq_true rfl) dL_errors_213 ⟨Nat.le_of_ble_eq_true rfl, Nat.le_of_ble_eq_true rfl⟩ (st1 := fun _ => [.long rA]) (fun _ => rfl) (fun u => [obC q qn qt qs qH qx cI cS ad u]) (fun _ => rfl) (fun o ho H locs hP hD hS => ?_)
  obtain ⟨hab, hg⟩ := ho
  refine lv_ldc2 hx hb hown (hw _ aw_340) dL_errors_216 ?_
  refine W.lcmp hx hb dL_errors_219 ?_
  refine iv_ifne hx hb 429 dL_errors_220 (by decide) (fun c => absurd (lg_self _) c) (fun _ => ?_)
  refine lv_aload_n hx hb dL_errors_223 rfl (lv_at hl 2 rfl) ?_
  refine lv_iconst (v := 1) hx hb dL_errors_224 (by decide) ?_
  refine lv_iconst (v := -1) hx hb dL_errors_225 (by decide) ?_
  have hc := o_set l hlt G cI cS cL ad mp q qn qt qs qH qx (o := o) hg (1 : Int32) (-1 : Int32)
  rw [hab] at hc
  have ev : (setA A (1 : Int32) (-1 : Int32)) = (rA, A) := by unfold setA; first | rw [if_neg (by decide +kernel)] | rw [if_pos (by decide +kernel), if_neg (by decide +kernel)] | rw [if_pos (by decide +kernel), if_pos (by decide +kernel), if_neg (by decide +kernel)]
  rw [ev] at hc
  refine co_callH (As := [.ref (q 0), .int (1 : Int32), .int (-1 : Int32)]) (rest := []) hE hC X hP hD hS hA hc cpH_set aw_589 ⟨Nat.le_of_ble_eq_true rfl, Nat.le_of_ble_eq_true rfl⟩ [0] (cs := [obC q qn qt qs qH qx cI cS ad o]) rfl (by decide) (fun u => [obC q qn qt qs qH qx cI cS ad u]) (fun _ => rfl) (fun _ => rfl) rfl hl.1 rfl (Nat.le_of_ble_eq_true rfl) dL_errors_226 ⟨Nat.le_of_ble_eq_true rfl, Nat.le_of_ble_eq_true rfl⟩ (st1 := fun _ => [.long rA]) (fun _ => rfl) (fun u => [obC q qn qt qs qH qx cI cS ad u]) (fun _ => rfl) (fun o ho H locs hP hD hS => ?_)
  obtain ⟨hab, hg⟩ := ho
  refine lv_ldc2 hx hb hown (hw _ aw_340) dL_errors_229 ?_
  refine W.lcmp hx hb dL_errors_232 ?_
  refine iv_ifne hx hb 429 dL_errors_233 (by decide) (fun c => absurd (lg_self _) c) (fun _ => ?_)
  refine lv_aload_n hx hb dL_errors_236 rfl (lv_at hl 2 rfl) ?_
  refine lv_iconst (v := 2) hx hb dL_errors_237 (by decide) ?_
  refine lv_bipush (v := 51) hx hb dL_errors_238 (by decide) ?_
  have hc := o_set l hlt G cI cS cL ad mp q qn qt qs qH qx (o := o) hg (2 : Int32) (51 : Int32)
  rw [hab] at hc
  have ev : (setA A (2 : Int32) (51 : Int32)) = (rA, A) := by unfold setA; first | rw [if_neg (by decide +kernel)] | rw [if_pos (by decide +kernel), if_neg (by decide +kernel)] | rw [if_pos (by decide +kernel), if_pos (by decide +kernel), if_neg (by decide +kernel)]
  rw [ev] at hc
  refine co_callH (As := [.ref (q 0), .int (2 : Int32), .int (51 : Int32)]) (rest := []) hE hC X hP hD hS hA hc cpH_set aw_589 ⟨Nat.le_of_ble_eq_true rfl, Nat.le_of_ble_eq_true rfl⟩ [0] (cs := [obC q qn qt qs qH qx cI cS ad o]) rfl (by decide) (fun u => [obC q qn qt qs qH qx cI cS ad u]) (fun _ => rfl) (fun _ => rfl) rfl hl.1 rfl (Nat.le_of_ble_eq_true rfl) dL_errors_240 ⟨Nat.le_of_ble_eq_true rfl, Nat.le_of_ble_eq_true rfl⟩ (st1 := fun _ => [.long rA]) (fun _ => rfl) (fun u => [obC q qn qt qs qH qx cI cS ad u]) (fun _ => rfl) (fun o ho H locs hP hD hS => ?_)
  obtain ⟨hab, hg⟩ := ho
  refine lv_ldc2 hx hb hown (hw _ aw_340) dL_errors_243 ?_
  refine W.lcmp hx hb dL_errors_246 ?_
  refine iv_ifne hx hb 429 dL_errors_247 (by decide) (fun c => absurd (lg_self _) c) (fun _ => ?_)
  refine lv_aload_n hx hb dL_errors_250 rfl (lv_at hl 2 rfl) ?_
  refine lv_bipush (v := 127) hx hb dL_errors_251 (by decide) ?_
  have hc := o_append l hlt G cI cS cL ad mp q qn qt qs qH qx (o := o) hg (127 : Int32)
  rw [hab] at hc
  have ev : (appendA A (127 : Int32)) = (rA, A) := by unfold appendA; first | rw [if_neg (by decide +kernel)] | rw [if_pos (by decide +kernel), if_neg (by decide +kernel)] | rw [if_pos (by decide +kernel), if_pos (by decide +kernel), if_neg (by decide +kernel)]
  rw [ev] at hc
  refine co_callH (As := [.ref (q 0), .int (127 : Int32)]) (rest := []) hE hC X hP hD hS hA hc cpH_append aw_603 ⟨Nat.le_of_ble_eq_true rfl, Nat.le_of_ble_eq_true rfl⟩ [0] (cs := [obC q qn qt qs qH qx cI cS ad o]) rfl (by decide) (fun u => [obC q qn qt qs qH qx cI cS ad u]) (fun _ => rfl) (fun _ => rfl) rfl hl.1 rfl (Nat.le_of_ble_eq_true rfl) dL_errors_253 ⟨Nat.le_of_ble_eq_true rfl, Nat.le_of_ble_eq_true rfl⟩ (st1 := fun _ => [.long rA]) (fun _ => rfl) (fun u => [obC q qn qt qs qH qx cI cS ad u]) (fun _ => rfl) (fun o ho H locs hP hD hS => ?_)
  obtain ⟨hab, hg⟩ := ho
  refine lv_ldc2 hx hb hown (hw _ aw_340) dL_errors_256 ?_
  refine W.lcmp hx hb dL_errors_259 ?_
  refine iv_ifne hx hb 429 dL_errors_260 (by decide) (fun c => absurd (lg_self _) c) (fun _ => ?_)
  refine lv_aload_n hx hb dL_errors_263 rfl (lv_at hl 2 rfl) ?_
  refine lv_bipush (v := 8) hx hb dL_errors_264 (by decide) ?_
  refine lv_bipush (v := 11) hx hb dL_errors_266 (by decide) ?_
  have hc := o_clock l hlt G cI cS cL ad mp q qn qt qs qH qx (o := o) hg (8 : Int32) (11 : Int32)
  rw [hab] at hc
  have ev : (clockA A (8 : Int32) (11 : Int32)) = rI := by unfold clockA; first | rw [if_neg (by decide +kernel)] | rw [if_pos (by decide +kernel), if_neg (by decide +kernel)] | rw [if_pos (by decide +kernel), if_pos (by decide +kernel), if_neg (by decide +kernel)]
  rw [ev] at hc
  refine co_callH (As := [.ref (q 0), .int (8 : Int32), .int (11 : Int32)]) (rest := []) hE hC X hP hD hS hA hc cpH_clock aw_341 ⟨Nat.le_of_ble_eq_true rfl, Nat.le_of_ble_eq_true rfl⟩ [0] (cs := [obC q qn qt qs qH qx cI cS ad o]) rfl (by decide) (fun u => [obC q qn qt qs qH qx cI cS ad u]) (fun _ => rfl) (fun _ => rfl) rfl hl.1 rfl (Nat.le_of_ble_eq_true rfl) dL_errors_268 ⟨Nat.le_of_ble_eq_true rfl, Nat.le_of_ble_eq_true rfl⟩ (st1 := fun _ => [.long rI]) (fun _ => rfl) (fun u => [obC q qn qt qs qH qx cI cS ad u]) (fun _ => rfl) (fun o ho H locs hP hD hS => ?_)
  obtain ⟨hab, hg⟩ := ho
  refine lv_ldc2 hx hb hown (hw _ aw_395) dL_errors_271 ?_
  refine W.lcmp hx hb dL_errors_274 ?_
  refine iv_ifne hx hb 429 dL_errors_275 (by decide) (fun c => absurd (lg_self _) c) (fun _ => ?_)
  refine lv_aload_n hx hb dL_errors_278 rfl (lv_at hl 2 rfl) ?_
  refine lv_iconst (v := 0) hx hb dL_errors_279 (by decide) ?_
  refine lv_bipush (v := 11) hx hb dL_errors_280 (by decide) ?_
  have hc := o_clock l hlt G cI cS cL ad mp q qn qt qs qH qx (o := o) hg (0 : Int32) (11 : Int32)
  rw [hab] at hc
  have ev : (clockA A (0 : Int32) (11 : Int32)) = rA := by unfold clockA; first | rw [if_neg (by decide +kernel)] | rw [if_pos (by decide +kernel), if_neg (by decide +kernel)] | rw [if_pos (by decide +kernel), if_pos (by decide +kernel), if_neg (by decide +kernel)]
  rw [ev] at hc
  refine co_callH (As := [.ref (q 0), .int (0 : Int32), .int (11 : Int32)]) (rest := []) hE hC X hP hD hS hA hc cpH_clock aw_341 ⟨Nat.le_of_ble_eq_true rfl, Nat.le_of_ble_eq_true rfl⟩ [0] (cs := [obC q qn qt qs qH qx cI cS ad o]) rfl (by decide) (fun u => [obC q qn qt qs qH qx cI cS ad u]) (fun _ => rfl) (fun _ => rfl) rfl hl.1 rfl (Nat.le_of_ble_eq_true rfl) dL_errors_282 ⟨Nat.le_of_ble_eq_true rfl, Nat.le_of_ble_eq_true rfl⟩ (st1 := fun _ => [.long rA]) (fun _ => rfl) (fun u => [obC q qn qt qs qH qx cI cS ad u]) (fun _ => rfl) (fun o ho H locs hP hD hS => ?_)
  obtain ⟨hab, hg⟩ := ho
  refine lv_ldc2 hx hb hown (hw _ aw_340) dL_errors_285 ?_
  refine W.lcmp hx hb dL_errors_288 ?_
  refine iv_ifne hx hb 429 dL_errors_289 (by decide) (fun c => absurd (lg_self _) c) (fun _ => ?_)
  refine lv_aload_n hx hb dL_errors_292 rfl (lv_at hl 2 rfl) ?_
  refine lv_iconst (v := 2) hx hb dL_errors_293 (by decide) ?_
  refine lv_iconst (v := 2) hx hb dL_errors_294 (by decide) ?_
  refine lv_iconst (v := 3) hx hb dL_errors_295 (by decide) ?_
  have hc := o_pair l hlt G cI cS cL ad mp q qn qt qs qH qx (o := o) hg (2 : Int32) (2 : Int32) (3 : Int32)
  rw [hab] at hc
  have ev : (pairA A (2 : Int32) (2 : Int32) (3 : Int32)) = rI := by unfold pairA; first | rw [if_neg (by decide +kernel)] | rw [if_pos (by decide +kernel), if_neg (by decide +kernel)] | rw [if_pos (by decide +kernel), if_pos (by decide +kernel), if_neg (by decide +kernel)]
  rw [ev] at hc
  refine co_callH (As := [.ref (q 0), .int (2 : Int32), .int (2 : Int32), .int (3 : Int32)]) (rest := []) hE hC X hP hD hS hA hc cpH_pair aw_396 ⟨Nat.le_of_ble_eq_true rfl, Nat.le_of_ble_eq_true rfl⟩ [0] (cs := [obC q qn qt qs qH qx cI cS ad o]) rfl (by decide) (fun u => [obC q qn qt qs qH qx cI cS ad u]) (fun _ => rfl) (fun _ => rfl) rfl hl.1 rfl (Nat.le_of_ble_eq_true rfl) dL_errors_296 ⟨Nat.le_of_ble_eq_true rfl, Nat.le_of_ble_eq_true rfl⟩ (st1 := fun _ => [.long rI]) (fun _ => rfl) (fun u => [obC q qn qt qs qH qx cI cS ad u]) (fun _ => rfl) (fun o ho H locs hP hD hS => ?_)
  obtain ⟨hab, hg⟩ := ho
  refine lv_ldc2 hx hb hown (hw _ aw_395) dL_errors_299 ?_
  refine W.lcmp hx hb dL_errors_302 ?_
  refine iv_ifne hx hb 429 dL_errors_303 (by decide) (fun c => absurd (lg_self _) c) (fun _ => ?_)
  refine lv_aload_n hx hb dL_errors_306 rfl (lv_at hl 2 rfl) ?_
  refine lv_iconst (v := 2) hx hb dL_errors_307 (by decide) ?_
  refine lv_iconst (v := 3) hx hb dL_errors_308 (by decide) ?_
  refine lv_iconst (v := 3) hx hb dL_errors_309 (by decide) ?_
  have hc := o_pair l hlt G cI cS cL ad mp q qn qt qs qH qx (o := o) hg (2 : Int32) (3 : Int32) (3 : Int32)
  rw [hab] at hc
  have ev : (pairA A (2 : Int32) (3 : Int32) (3 : Int32)) = rA := by unfold pairA; first | rw [if_neg (by decide +kernel)] | rw [if_pos (by decide +kernel), if_neg (by decide +kernel)] | rw [if_pos (by decide +kernel), if_pos (by decide +kernel), if_neg (by decide +kernel)]
  rw [ev] at hc
  refine co_callH (As := [.ref (q 0), .int (2 : Int32), .int (3 : Int32), .int (3 : Int32)]) (rest := []) hE hC X hP hD hS hA hc cpH_pair aw_396 ⟨Nat.le_of_ble_eq_true rfl, Nat.le_of_ble_eq_true rfl⟩ [0] (cs := [obC q qn qt qs qH qx cI cS ad o]) rfl (by decide) (fun u => [obC q qn qt qs qH qx cI cS ad u]) (fun _ => rfl) (fun _ => rfl) rfl hl.1 rfl (Nat.le_of_ble_eq_true rfl) dL_errors_310 ⟨Nat.le_of_ble_eq_true rfl, Nat.le_of_ble_eq_true rfl⟩ (st1 := fun _ => [.long rA]) (fun _ => rfl) (fun u => [obC q qn qt qs qH qx cI cS ad u]) (fun _ => rfl) (fun o ho H locs hP hD hS => ?_)
  obtain ⟨hab, hg⟩ := ho
  refine lv_ldc2 hx hb hown (hw _ aw_340) dL_errors_313 ?_
  refine W.lcmp hx hb dL_errors_316 ?_
  refine iv_ifne hx hb 429 dL_errors_317 (by decide) (fun c => absurd (lg_self _) c) (fun _ => ?_)
  refine lv_aload_n hx hb dL_errors_320 rfl (lv_at hl 2 rfl) ?_
  refine lv_iconst (v := 3) hx hb dL_errors_321 (by decide) ?_
  refine lv_iconst (v := 5) hx hb dL_errors_322 (by decide) ?_
  have hc := o_beam l hlt G cI cS cL ad mp q qn qt qs qH qx (o := o) hg (3 : Int32) (5 : Int32)
  rw [hab] at hc
  have ev : (beamA A (3 : Int32) (5 : Int32)) = rI := by unfold beamA; first | rw [if_neg (by decide +kernel)] | rw [if_pos (by decide +kernel), if_neg (by decide +kernel)] | rw [if_pos (by decide +kernel), if_pos (by decide +kernel), if_neg (by decide +kernel)]
  rw [ev] at hc
  refine co_callH (As := [.ref (q 0), .int (3 : Int32), .int (5 : Int32)]) (rest := []) hE hC X hP hD hS hA hc cpH_beam aw_428 ⟨Nat.le_of_ble_eq_true rfl, Nat.le_of_ble_eq_true rfl⟩ [0] (cs := [obC q qn qt qs qH qx cI cS ad o]) rfl (by decide) (fun u => [obC q qn qt qs qH qx cI cS ad u]) (fun _ => rfl) (fun _ => rfl) rfl hl.1 rfl (Nat.le_of_ble_eq_true rfl) dL_errors_323 ⟨Nat.le_of_ble_eq_true rfl, Nat.le_of_ble_eq_true rfl⟩ (st1 := fun _ => [.long rI]) (fun _ => rfl) (fun u => [obC q qn qt qs qH qx cI cS ad u]) (fun _ => rfl) (fun o ho H locs hP hD hS => ?_)
  obtain ⟨hab, hg⟩ := ho
  refine lv_ldc2 hx hb hown (hw _ aw_395) dL_errors_326 ?_
  refine W.lcmp hx hb dL_errors_329 ?_
  refine iv_ifne hx hb 429 dL_errors_330 (by decide) (fun c => absurd (lg_self _) c) (fun _ => ?_)
  refine lv_aload_n hx hb dL_errors_333 rfl (lv_at hl 2 rfl) ?_
  refine lv_iconst (v := 0) hx hb dL_errors_334 (by decide) ?_
  refine lv_iconst (v := 5) hx hb dL_errors_335 (by decide) ?_
  have hc := o_beam l hlt G cI cS cL ad mp q qn qt qs qH qx (o := o) hg (0 : Int32) (5 : Int32)
  rw [hab] at hc
  have ev : (beamA A (0 : Int32) (5 : Int32)) = rA := by unfold beamA; first | rw [if_neg (by decide +kernel)] | rw [if_pos (by decide +kernel), if_neg (by decide +kernel)] | rw [if_pos (by decide +kernel), if_pos (by decide +kernel), if_neg (by decide +kernel)]
  rw [ev] at hc
  refine co_callH (As := [.ref (q 0), .int (0 : Int32), .int (5 : Int32)]) (rest := []) hE hC X hP hD hS hA hc cpH_beam aw_428 ⟨Nat.le_of_ble_eq_true rfl, Nat.le_of_ble_eq_true rfl⟩ [0] (cs := [obC q qn qt qs qH qx cI cS ad o]) rfl (by decide) (fun u => [obC q qn qt qs qH qx cI cS ad u]) (fun _ => rfl) (fun _ => rfl) rfl hl.1 rfl (Nat.le_of_ble_eq_true rfl) dL_errors_336 ⟨Nat.le_of_ble_eq_true rfl, Nat.le_of_ble_eq_true rfl⟩ (st1 := fun _ => [.long rA]) (fun _ => rfl) (fun u => [obC q qn qt qs qH qx cI cS ad u]) (fun _ => rfl) (fun o ho H locs hP hD hS => ?_)
  obtain ⟨hab, hg⟩ := ho
  refine lv_ldc2 hx hb hown (hw _ aw_340) dL_errors_339 ?_
  refine W.lcmp hx hb dL_errors_342 ?_
  refine iv_ifne hx hb 429 dL_errors_343 (by decide) (fun c => absurd (lg_self _) c) (fun _ => ?_)
  refine lv_aload_n hx hb dL_errors_346 rfl (lv_at hl 2 rfl) ?_
  refine lv_iconst (v := -1) hx hb dL_errors_347 (by decide) ?_
  have hc := o_count l hlt G cI cS cL ad mp q qn qt qs qH qx (o := o) hg (by rw [hab]; exact hI.ns) (-1 : Int32)
  rw [hab] at hc
  have ev : (countA A (-1 : Int32)) = rA := by unfold countA; first | rw [if_neg (by decide +kernel)] | rw [if_pos (by decide +kernel), if_neg (by decide +kernel)] | rw [if_pos (by decide +kernel), if_pos (by decide +kernel), if_neg (by decide +kernel)]
  rw [ev] at hc
  refine co_callH (As := [.ref (q 0), .int (-1 : Int32)]) (rest := []) hE hC X hP hD hS hA hc cpH_count aw_204 ⟨Nat.le_of_ble_eq_true rfl, Nat.le_of_ble_eq_true rfl⟩ [0] (cs := [obC q qn qt qs qH qx cI cS ad o]) rfl (by decide) (fun u => [obC q qn qt qs qH qx cI cS ad u]) (fun _ => rfl) (fun _ => rfl) rfl hl.1 rfl (Nat.le_of_ble_eq_true rfl) dL_errors_348 ⟨Nat.le_of_ble_eq_true rfl, Nat.le_of_ble_eq_true rfl⟩ (st1 := fun _ => [.long rA]) (fun _ => rfl) (fun u => [obC q qn qt qs qH qx cI cS ad u]) (fun _ => rfl) (fun o ho H locs hP hD hS => ?_)
  obtain ⟨hab, hg⟩ := ho
  refine lv_ldc2 hx hb hown (hw _ aw_340) dL_errors_351 ?_
  refine W.lcmp hx hb dL_errors_354 ?_
  refine iv_ifne hx hb 429 dL_errors_355 (by decide) (fun c => absurd (lg_self _) c) (fun _ => ?_)
  refine lv_aload_n hx hb dL_errors_358 rfl (lv_at hl 2 rfl) ?_
  refine lv_iconst (v := 3) hx hb dL_errors_359 (by decide) ?_
  have hc := o_setting l hlt G cI cS cL ad mp q qn qt qs qH qx (o := o) hg (3 : Int32)
  rw [hab] at hc
  have ev : (settingA A (3 : Int32)) = rI := by unfold settingA; first | rw [if_neg (by decide +kernel)] | rw [if_pos (by decide +kernel), if_neg (by decide +kernel)] | rw [if_pos (by decide +kernel), if_pos (by decide +kernel), if_neg (by decide +kernel)]
  rw [ev] at hc
  refine co_callH (As := [.ref (q 0), .int (3 : Int32)]) (rest := []) hE hC X hP hD hS hA hc cpH_setting aw_454 ⟨Nat.le_of_ble_eq_true rfl, Nat.le_of_ble_eq_true rfl⟩ [0] (cs := [obC q qn qt qs qH qx cI cS ad o]) rfl (by decide) (fun u => [obC q qn qt qs qH qx cI cS ad u]) (fun _ => rfl) (fun _ => rfl) rfl hl.1 rfl (Nat.le_of_ble_eq_true rfl) dL_errors_360 ⟨Nat.le_of_ble_eq_true rfl, Nat.le_of_ble_eq_true rfl⟩ (st1 := fun _ => [.long rI]) (fun _ => rfl) (fun u => [obC q qn qt qs qH qx cI cS ad u]) (fun _ => rfl) (fun o ho H locs hP hD hS => ?_)
  obtain ⟨hab, hg⟩ := ho
  refine lv_ldc2 hx hb hown (hw _ aw_395) dL_errors_363 ?_
  refine W.lcmp hx hb dL_errors_366 ?_
  refine iv_ifne hx hb 429 dL_errors_367 (by decide) (fun c => absurd (lg_self _) c) (fun _ => ?_)
  refine lv_aload_n hx hb dL_errors_370 rfl (lv_at hl 2 rfl) ?_
  refine lv_iconst (v := 0) hx hb dL_errors_371 (by decide) ?_
  refine lv_bipush (v := 8) hx hb dL_errors_372 (by decide) ?_
  refine lv_iconst (v := 0) hx hb dL_errors_374 (by decide) ?_
  have hc := o_ifPassed l hlt G cI cS cL ad mp q qn qt qs qH qx (o := o) hg (0 : Int32) (8 : Int32) (0 : Int32)
  rw [hab] at hc
  have ev : (ifPA A (0 : Int32) (8 : Int32) (0 : Int32)) = rI := by unfold ifPA; first | rw [if_neg (by decide +kernel)] | rw [if_pos (by decide +kernel), if_neg (by decide +kernel)] | rw [if_pos (by decide +kernel), if_pos (by decide +kernel), if_neg (by decide +kernel)]
  rw [ev] at hc
  refine co_callH (As := [.ref (q 0), .int (0 : Int32), .int (8 : Int32), .int (0 : Int32)]) (rest := []) hE hC X hP hD hS hA hc cpH_ifPassed aw_621 ⟨Nat.le_of_ble_eq_true rfl, Nat.le_of_ble_eq_true rfl⟩ [0] (cs := [obC q qn qt qs qH qx cI cS ad o]) rfl (by decide) (fun u => [obC q qn qt qs qH qx cI cS ad u]) (fun _ => rfl) (fun _ => rfl) rfl hl.1 rfl (Nat.le_of_ble_eq_true rfl) dL_errors_375 ⟨Nat.le_of_ble_eq_true rfl, Nat.le_of_ble_eq_true rfl⟩ (st1 := fun _ => [.long rI]) (fun _ => rfl) (fun u => [obC q qn qt qs qH qx cI cS ad u]) (fun _ => rfl) (fun o ho H locs hP hD hS => ?_)
  obtain ⟨hab, hg⟩ := ho
  refine lv_ldc2 hx hb hown (hw _ aw_395) dL_errors_378 ?_
  refine W.lcmp hx hb dL_errors_381 ?_
  refine iv_ifne hx hb 429 dL_errors_382 (by decide) (fun c => absurd (lg_self _) c) (fun _ => ?_)
  refine lv_aload_n hx hb dL_errors_385 rfl (lv_at hl 2 rfl) ?_
  refine lv_iconst (v := 0) hx hb dL_errors_386 (by decide) ?_
  refine lv_iconst (v := 0) hx hb dL_errors_387 (by decide) ?_
  refine lv_iconst (v := 0) hx hb dL_errors_388 (by decide) ?_
  have hc := o_ifPassed l hlt G cI cS cL ad mp q qn qt qs qH qx (o := o) hg (0 : Int32) (0 : Int32) (0 : Int32)
  rw [hab] at hc
  have ev : (ifPA A (0 : Int32) (0 : Int32) (0 : Int32)) = rA := by unfold ifPA; first | rw [if_neg (by decide +kernel)] | rw [if_pos (by decide +kernel), if_neg (by decide +kernel)] | rw [if_pos (by decide +kernel), if_pos (by decide +kernel), if_neg (by decide +kernel)]
  rw [ev] at hc
  refine co_callH (As := [.ref (q 0), .int (0 : Int32), .int (0 : Int32), .int (0 : Int32)]) (rest := []) hE hC X hP hD hS hA hc cpH_ifPassed aw_621 ⟨Nat.le_of_ble_eq_true rfl, Nat.le_of_ble_eq_true rfl⟩ [0] (cs := [obC q qn qt qs qH qx cI cS ad o]) rfl (by decide) (fun u => [obC q qn qt qs qH qx cI cS ad u]) (fun _ => rfl) (fun _ => rfl) rfl hl.1 rfl (Nat.le_of_ble_eq_true rfl) dL_errors_389 ⟨Nat.le_of_ble_eq_true rfl, Nat.le_of_ble_eq_true rfl⟩ (st1 := fun _ => [.long rA]) (fun _ => rfl) (fun u => [obC q qn qt qs qH qx cI cS ad u]) (fun _ => rfl) (fun o ho H locs hP hD hS => ?_)
  obtain ⟨hab, hg⟩ := ho
  refine lv_ldc2 hx hb hown (hw _ aw_340) dL_errors_392 ?_
  refine W.lcmp hx hb dL_errors_395 ?_
  refine iv_ifne hx hb 429 dL_errors_396 (by decide) (fun c => absurd (lg_self _) c) (fun _ => ?_)
  refine lv_aload_n hx hb dL_errors_399 rfl (lv_at hl 2 rfl) ?_
  refine lv_iconst (v := 1) hx hb dL_errors_400 (by decide) ?_
  refine lv_bipush (v := 8) hx hb dL_errors_401 (by decide) ?_
  have hc := o_lockedIn l hlt G cI cS cL ad mp q qn qt qs qH qx (o := o) hg (1 : Int32) (8 : Int32)
  rw [hab] at hc
  have ev : (lockA A (1 : Int32) (8 : Int32)) = rI := by unfold lockA; first | rw [if_neg (by decide +kernel)] | rw [if_pos (by decide +kernel), if_neg (by decide +kernel)] | rw [if_pos (by decide +kernel), if_pos (by decide +kernel), if_neg (by decide +kernel)]
  rw [ev] at hc
  refine co_callH (As := [.ref (q 0), .int (1 : Int32), .int (8 : Int32)]) (rest := []) hE hC X hP hD hS hA hc cpH_lockedIn aw_638 ⟨Nat.le_of_ble_eq_true rfl, Nat.le_of_ble_eq_true rfl⟩ [0] (cs := [obC q qn qt qs qH qx cI cS ad o]) rfl (by decide) (fun u => [obC q qn qt qs qH qx cI cS ad u]) (fun _ => rfl) (fun _ => rfl) rfl hl.1 rfl (Nat.le_of_ble_eq_true rfl) dL_errors_403 ⟨Nat.le_of_ble_eq_true rfl, Nat.le_of_ble_eq_true rfl⟩ (st1 := fun _ => [.long rI]) (fun _ => rfl) (fun u => [obC q qn qt qs qH qx cI cS ad u]) (fun _ => rfl) (fun o ho H locs hP hD hS => ?_)
  obtain ⟨hab, hg⟩ := ho
  refine lv_ldc2 hx hb hown (hw _ aw_395) dL_errors_406 ?_
  refine W.lcmp hx hb dL_errors_409 ?_
  refine iv_ifne hx hb 429 dL_errors_410 (by decide) (fun c => absurd (lg_self _) c) (fun _ => ?_)
  refine lv_aload_n hx hb dL_errors_413 rfl (lv_at hl 2 rfl) ?_
  refine lv_iconst (v := 3) hx hb dL_errors_414 (by decide) ?_
  have hc := o_bestGive l hlt G cI cS cL ad mp q qn qt qs qH qx (o := o) hg (by rw [hab]; exact hI.ns) (3 : Int32)
  rw [hab] at hc
  have ev : (bestA A (3 : Int32)) = rI := by unfold bestA; first | rw [if_neg (by decide +kernel)] | rw [if_pos (by decide +kernel), if_neg (by decide +kernel)] | rw [if_pos (by decide +kernel), if_pos (by decide +kernel), if_neg (by decide +kernel)]
  rw [ev] at hc
  refine co_callH (As := [.ref (q 0), .int (3 : Int32)]) (rest := []) hE hC X hP hD hS hA hc cpH_bestGive aw_651 ⟨Nat.le_of_ble_eq_true rfl, Nat.le_of_ble_eq_true rfl⟩ [0] (cs := [obC q qn qt qs qH qx cI cS ad o]) rfl (by decide) (fun u => [obC q qn qt qs qH qx cI cS ad u]) (fun _ => rfl) (fun _ => rfl) rfl hl.1 rfl (Nat.le_of_ble_eq_true rfl) dL_errors_415 ⟨Nat.le_of_ble_eq_true rfl, Nat.le_of_ble_eq_true rfl⟩ (st1 := fun _ => [.long rI]) (fun _ => rfl) (fun u => [obC q qn qt qs qH qx cI cS ad u]) (fun _ => rfl) (fun o ho H locs hP hD hS => ?_)
  obtain ⟨hab, hg⟩ := ho
  refine lv_ldc2 hx hb hown (hw _ aw_395) dL_errors_418 ?_
  refine W.lcmp hx hb dL_errors_421 ?_
  refine iv_ifne hx hb 429 dL_errors_422 (by decide) (fun c => absurd (lg_self _) c) (fun _ => ?_)
  refine lv_iconst (v := 1) hx hb dL_errors_425 (by decide) ?_
  refine lv_goto (tgt := 430) hx hb dL_errors_426 (by decide) ?_
  refine lv_istore (lv' := [(5, .int (1 : Int32)), (3, .long (countA A (9 : Int32))), (1, .long (nowV A)), (0, .ref (q 0))]) hx hb dL_errors_430 hl (by decide) rfl (fun ls hl => ?_)
  refine lv_iload hx hb dL_errors_432 (lv_at hl 0 rfl) ?_
  refine lv_if_eq (tgt := 461) hx hb dL_errors_434 (by decide) (fun c => absurd c (by decide)) (fun _ => ?_)
  refine lv_aload_n hx hb dL_errors_437 rfl (lv_at hl 3 rfl) ?_
  have hc := o_now l G cI cS cL ad mp q qn qt qs qH qx (o := o) hg (by rw [hab]; exact hI.ns)
  rw [hab] at hc
  refine co_callS (As := [.ref (q 0)]) (rest := []) hE hC X hP hD hS hA hc cpS_now aw_199 ⟨Nat.le_of_ble_eq_true rfl, Nat.le_of_ble_eq_true rfl⟩ [0] (cs := [obC q qn qt qs qH qx cI cS ad o]) rfl (by decide) (fun u => [obC q qn qt qs qH qx cI cS ad u]) (fun _ => rfl) (fun _ => rfl) rfl hl.1 rfl (Nat.le_of_ble_eq_true rfl) dL_errors_438 ⟨Nat.le_of_ble_eq_true rfl, Nat.le_of_ble_eq_true rfl⟩ (st1 := fun _ => [.long (nowV A)]) (fun _ => rfl) (fun u => [obC q qn qt qs qH qx cI cS ad u]) (fun _ => rfl) (fun o ho H locs hP hD hS => ?_)
  obtain ⟨hab, hg⟩ := ho
  refine lv_lload_n hx hb dL_errors_441 rfl (lv_at hl 2 rfl) ?_
  refine W.lcmp hx hb dL_errors_442 ?_
  refine iv_ifne hx hb 461 dL_errors_443 (by decide) (fun c => absurd (lg_self _) c) (fun _ => ?_)
  refine lv_aload_n hx hb dL_errors_446 rfl (lv_at hl 3 rfl) ?_
  refine lv_bipush (v := 9) hx hb dL_errors_447 (by decide) ?_
  have hc := oz_count l G cI cS cL ad mp q qn qt qs qH qx (o := o) hg (by rw [hab]; exact hI.ns) (9 : Int32) (by decide)
  rw [hab] at hc
  refine co_callH (As := [.ref (q 0), .int (9 : Int32)]) (rest := []) hE hC X hP hD hS hA hc cpH_count aw_204 ⟨Nat.le_of_ble_eq_true rfl, Nat.le_of_ble_eq_true rfl⟩ [0] (cs := [obC q qn qt qs qH qx cI cS ad o]) rfl (by decide) (fun u => [obC q qn qt qs qH qx cI cS ad u]) (fun _ => rfl) (fun _ => rfl) rfl hl.1 rfl (Nat.le_of_ble_eq_true rfl) dL_errors_449 ⟨Nat.le_of_ble_eq_true rfl, Nat.le_of_ble_eq_true rfl⟩ (st1 := fun _ => [.long (countA A (9 : Int32))]) (fun _ => rfl) (fun u => [obC q qn qt qs qH qx cI cS ad u]) (fun _ => rfl) (fun o ho H locs hP hD hS => ?_)
  obtain ⟨hab, hg⟩ := ho
  refine lv_lload_n hx hb dL_errors_452 rfl (lv_at hl 1 rfl) ?_
  refine W.lcmp hx hb dL_errors_453 ?_
  refine iv_ifne hx hb 461 dL_errors_454 (by decide) (fun c => absurd (lg_self _) c) (fun _ => ?_)
  refine lv_iconst (v := 1) hx hb dL_errors_457 (by decide) ?_
  refine lv_goto (tgt := 462) hx hb dL_errors_458 (by decide) ?_
  refine W.widen (k := 30) (n := 180) (Nat.le_of_ble_eq_true rfl) (Nat.le_of_ble_eq_true rfl) ?_
  rw [← hQQ]
  exact W.zret (v := (1 : Int32)) hx hb hr rfl (ct_endO o ⟨hab, hg⟩ rfl hP hD hS) hS.2.2 dL_errors_462

set_option maxRecDepth 100000 in
set_option maxHeartbeats 4000000 in
theorem o_says (l : Launch) (G : va_G) (cI cS cL : ClassId) (ad : Nat → Nat) (mp : Nat) (q qn qt qs qH qx : Nat → Nat) {o : Ob} (hg : Gd o) (a : Int32) (c2 : Int32) (c3 : Int32) (hl0 : (aob o).2.2.2.length + 3 ≤ 60) (ha : (¬ (a < (33 : Int32))) ∧ (a ≤ (126 : Int32))) (hc2 : (¬ (c2 < (33 : Int32))) ∧ (c2 ≤ (126 : Int32))) (hc3 : (¬ (c3 < (33 : Int32))) ∧ (c3 ≤ (126 : Int32))) : CtO l G (tyl cI cS cL) ad mp yL_says (Cond.code yL_says cL_says 4 (some .boolean)) 4 84 0 0 [.ref (q 0), .int a, .int c2, .int c3] [obC q qn qt qs qH qx cI cS ad o].flatten (fun u => aob u = ((aob o).1, (aob o).2.1, (aob o).2.2.1, (aob o).2.2.2 ++ [a] ++ [c2] ++ [c3]) ∧ Gd u) (fun _ => some (.int (1 : Int32))) (fun u => [obC q qn qt qs qH qx cI cS ad u].flatten) := by
  obtain ⟨A, hab⟩ : ∃ A, aob o = A := ⟨_, rfl⟩
  rw [hab] at hl0 ⊢
  refine CtO.of (by decide +kernel) (Nat.le_of_ble_eq_true rfl) ?_
  intro p e s m args below meth c A0 ls hx hb hr hml hw hown hlocks hK hN hC hE hP hD hS hA hl
  have hown : s.vm.findClass RL = some m.cls := hown
  have X : Cx p s m args c cL_says 4 RL G (tyl cI cS cL) := ⟨hx, hb, hml, hown, hw, hK, hN⟩
  have hP : va_P G classes [obC q qn qt qs qH qx cI cS ad o].flatten s.heap := hP
  have hl : lv_has ls 4 [(0, .ref (q 0)), (1, .int a), (2, .int c2), (3, .int c3)] := hl
  generalize hQQ : MQ below _ args s 0 0 A0 = QQ
  refine lv_aload_n hx hb dL_says_0 rfl (lv_at hl 0 rfl) ?_
  refine lv_iload_n hx hb dL_says_1 rfl (lv_at hl 1 rfl) ?_
  have hc := oz_append l G cI cS cL ad mp q qn qt qs qH qx (o := o) hg a ha (by rw [hab]; exact nf_of (by first | omega | (simp only [List.length_append, List.length_cons, List.length_nil]; omega)))
  rw [hab] at hc
  have ev := app_ok (A := A) ha (by first | omega | (simp only [List.length_append, List.length_cons, List.length_nil]; omega))
  rw [ev] at hc
  refine co_callH (As := [.ref (q 0), .int a]) (rest := []) hE hC X hP hD hS hA hc cpH_append aw_603 ⟨Nat.le_of_ble_eq_true rfl, Nat.le_of_ble_eq_true rfl⟩ [0] (cs := [obC q qn qt qs qH qx cI cS ad o]) rfl (by decide) (fun u => [obC q qn qt qs qH qx cI cS ad u]) (fun _ => rfl) (fun _ => rfl) rfl hl.1 rfl (Nat.le_of_ble_eq_true rfl) dL_says_2 ⟨Nat.le_of_ble_eq_true rfl, Nat.le_of_ble_eq_true rfl⟩ (st1 := fun _ => [.long ((nI (A.2.2.2.length + 1)).toInt64)]) (fun _ => rfl) (fun u => [obC q qn qt qs qH qx cI cS ad u]) (fun _ => rfl) (fun o ho H locs hP hD hS => ?_)
  obtain ⟨hab, hg⟩ := ho
  have hab : aob o = (A.1, A.2.1, A.2.2.1, A.2.2.2 ++ [a]) := hab
  refine lv_lconst (v := 0) hx hb dL_says_5 (by decide) ?_
  refine W.lcmp hx hb dL_says_6 ?_
  refine lv_if_le (tgt := 34) hx hb dL_says_7 (by decide) (fun c => absurd c (lg_pos (by first | omega | (simp only [List.length_append, List.length_cons, List.length_nil]; omega)))) (fun _ => ?_)
  refine lv_aload_n hx hb dL_says_10 rfl (lv_at hl 0 rfl) ?_
  refine lv_iload_n hx hb dL_says_11 rfl (lv_at hl 2 rfl) ?_
  have hc := oz_append l G cI cS cL ad mp q qn qt qs qH qx (o := o) hg c2 hc2 (by rw [hab]; exact nf_of (by first | omega | (simp only [List.length_append, List.length_cons, List.length_nil]; omega)))
  rw [hab] at hc
  have ev := app_ok (A := (A.1, A.2.1, A.2.2.1, A.2.2.2 ++ [a])) hc2 (by first | omega | (simp only [List.length_append, List.length_cons, List.length_nil]; omega))
  rw [ev] at hc
  refine co_callH (As := [.ref (q 0), .int c2]) (rest := []) hE hC X hP hD hS hA hc cpH_append aw_603 ⟨Nat.le_of_ble_eq_true rfl, Nat.le_of_ble_eq_true rfl⟩ [0] (cs := [obC q qn qt qs qH qx cI cS ad o]) rfl (by decide) (fun u => [obC q qn qt qs qH qx cI cS ad u]) (fun _ => rfl) (fun _ => rfl) rfl hl.1 rfl (Nat.le_of_ble_eq_true rfl) dL_says_12 ⟨Nat.le_of_ble_eq_true rfl, Nat.le_of_ble_eq_true rfl⟩ (st1 := fun _ => [.long ((nI ((A.1, A.2.1, A.2.2.1, A.2.2.2 ++ [a]).2.2.2.length + 1)).toInt64)]) (fun _ => rfl) (fun u => [obC q qn qt qs qH qx cI cS ad u]) (fun _ => rfl) (fun o ho H locs hP hD hS => ?_)
  obtain ⟨hab, hg⟩ := ho
  have hab : aob o = (A.1, A.2.1, A.2.2.1, A.2.2.2 ++ [a] ++ [c2]) := hab
  refine lv_lconst (v := 0) hx hb dL_says_15 (by decide) ?_
  refine W.lcmp hx hb dL_says_16 ?_
  refine lv_if_le (tgt := 34) hx hb dL_says_17 (by decide) (fun c => absurd c (lg_pos (by first | omega | (simp only [List.length_append, List.length_cons, List.length_nil]; omega)))) (fun _ => ?_)
  refine lv_aload_n hx hb dL_says_20 rfl (lv_at hl 0 rfl) ?_
  refine lv_iload_n hx hb dL_says_21 rfl (lv_at hl 3 rfl) ?_
  have hc := oz_append l G cI cS cL ad mp q qn qt qs qH qx (o := o) hg c3 hc3 (by rw [hab]; exact nf_of (by first | omega | (simp only [List.length_append, List.length_cons, List.length_nil]; omega)))
  rw [hab] at hc
  have ev := app_ok (A := (A.1, A.2.1, A.2.2.1, A.2.2.2 ++ [a] ++ [c2])) hc3 (by first | omega | (simp only [List.length_append, List.length_cons, List.length_nil]; omega))
  rw [ev] at hc
  refine co_callH (As := [.ref (q 0), .int c3]) (rest := []) hE hC X hP hD hS hA hc cpH_append aw_603 ⟨Nat.le_of_ble_eq_true rfl, Nat.le_of_ble_eq_true rfl⟩ [0] (cs := [obC q qn qt qs qH qx cI cS ad o]) rfl (by decide) (fun u => [obC q qn qt qs qH qx cI cS ad u]) (fun _ => rfl) (fun _ => rfl) rfl hl.1 rfl (Nat.le_of_ble_eq_true rfl) dL_says_22 ⟨Nat.le_of_ble_eq_true rfl, Nat.le_of_ble_eq_true rfl⟩ (st1 := fun _ => [.long ((nI ((A.1, A.2.1, A.2.2.1, A.2.2.2 ++ [a] ++ [c2]).2.2.2.length + 1)).toInt64)]) (fun _ => rfl) (fun u => [obC q qn qt qs qH qx cI cS ad u]) (fun _ => rfl) (fun o ho H locs hP hD hS => ?_)
  obtain ⟨hab, hg⟩ := ho
  have hab : aob o = (A.1, A.2.1, A.2.2.1, A.2.2.2 ++ [a] ++ [c2] ++ [c3]) := hab
  refine lv_lconst (v := 0) hx hb dL_says_25 (by decide) ?_
  refine W.lcmp hx hb dL_says_26 ?_
  refine lv_if_le (tgt := 34) hx hb dL_says_27 (by decide) (fun c => absurd c (lg_pos (by first | omega | (simp only [List.length_append, List.length_cons, List.length_nil]; omega)))) (fun _ => ?_)
  refine lv_iconst (v := 1) hx hb dL_says_30 (by decide) ?_
  refine lv_goto (tgt := 35) hx hb dL_says_31 (by decide) ?_
  rw [← hQQ]
  exact W.zret (v := (1 : Int32)) hx hb hr rfl (ct_endO o ⟨hab, hg⟩ rfl hP hD hS) hS.2.2 dL_says_35

set_option maxRecDepth 100000 in
set_option maxHeartbeats 4000000 in
theorem o_wipes (l : Launch) (G : va_G) (cI cS cL : ClassId) (ad : Nat → Nat) (mp : Nat) (q qn qt qs qH qx : Nat → Nat) {o : Ob} (hg : Gd o) {bb : Nat} (hI : IA bb (aob o)) : CtO l G (tyl cI cS cL) ad mp yL_wipes (Cond.code yL_wipes cL_wipes 3 (some .boolean)) 7 157 0 0 [.ref (q 0)] [obC q qn qt qs qH qx cI cS ad o].flatten (fun u => aob u = wpA (aob o) 6 ∧ Gd u) (fun _ => some (.int (1 : Int32))) (fun u => [obC q qn qt qs qH qx cI cS ad u].flatten) := by
  obtain ⟨A, hab⟩ : ∃ A, aob o = A := ⟨_, rfl⟩
  rw [hab] at hI ⊢
  refine CtO.of (by decide +kernel) (Nat.le_of_ble_eq_true rfl) ?_
  intro p e s m args below meth c A0 ls hx hb hr hml hw hown hlocks hK hN hC hE hP hD hS hA hl
  have hown : s.vm.findClass RL = some m.cls := hown
  have X : Cx p s m args c cL_wipes 3 RL G (tyl cI cS cL) := ⟨hx, hb, hml, hown, hw, hK, hN⟩
  have hP : va_P G classes [obC q qn qt qs qH qx cI cS ad o].flatten s.heap := hP
  have hl : lv_has ls 3 [(0, .ref (q 0))] := hl
  generalize hQQ : MQ below _ args s 0 0 A0 = QQ
  refine lv_iconst (v := 1) hx hb dL_wipes_0 (by decide) ?_
  refine lv_istore_n (lv' := [(1, .int (1 : Int32)), (0, .ref (q 0))]) hx hb dL_wipes_1 rfl hl (by decide) rfl (fun ls hl => ?_)
  refine lv_iconst (v := 0) hx hb dL_wipes_2 (by decide) ?_
  refine lv_istore_n (lv' := [(2, .int (0 : Int32)), (1, .int (1 : Int32)), (0, .ref (q 0))]) hx hb dL_wipes_3 rfl hl (by decide) rfl (fun ls hl => ?_)
  refine lv_iload_n hx hb dL_wipes_4 rfl (lv_at hl 0 rfl) ?_
  refine lv_bipush (v := 6) hx hb dL_wipes_5 (by decide) ?_
  refine lv_icmp_ge (tgt := 36) hx hb dL_wipes_7 (by decide) (fun c => absurd c (by decide)) (fun _ => ?_)
  refine lv_iload_n hx hb dL_wipes_10 rfl (lv_at hl 1 rfl) ?_
  refine lv_if_eq (tgt := 28) hx hb dL_wipes_11 (by decide) (fun c => absurd c (by decide)) (fun _ => ?_)
  refine lv_aload_n hx hb dL_wipes_14 rfl (lv_at hl 2 rfl) ?_
  refine lv_iload_n hx hb dL_wipes_15 rfl (lv_at hl 0 rfl) ?_
  have hc := oz_wind l G cI cS cL ad mp q qn qt qs qH qx (o := o) hg (0 : Int32) (by decide +kernel)
  rw [hab] at hc
  obtain ⟨ev, ge0⟩ := wind_v (wpA_IA hI 0 (by decide)) (k := 0) (by decide)
  rw [show windA A (0 : Int32) = ((zsg (wdZ (wpA A 0).1 0) 0 - zsg (wpA A 0).1 0).toInt64, wpA A 1) from ev] at hc
  refine co_callH (As := [.ref (q 0), .int (0 : Int32)]) (rest := []) hE hC X hP hD hS hA hc cpH_wind aw_562 ⟨Nat.le_of_ble_eq_true rfl, Nat.le_of_ble_eq_true rfl⟩ [0] (cs := [obC q qn qt qs qH qx cI cS ad o]) rfl (by decide) (fun u => [obC q qn qt qs qH qx cI cS ad u]) (fun _ => rfl) (fun _ => rfl) rfl hl.1 rfl (Nat.le_of_ble_eq_true rfl) dL_wipes_16 ⟨Nat.le_of_ble_eq_true rfl, Nat.le_of_ble_eq_true rfl⟩ (st1 := fun _ => [.long ((zsg (wdZ (wpA A 0).1 0) 0 - zsg (wpA A 0).1 0).toInt64)]) (fun _ => rfl) (fun u => [obC q qn qt qs qH qx cI cS ad u]) (fun _ => rfl) (fun o ho H locs hP hD hS => ?_)
  obtain ⟨hab, hg⟩ := ho
  have hab : aob o = wpA A 1 := hab
  refine lv_lconst (v := 0) hx hb dL_wipes_19 (by decide) ?_
  refine W.lcmp hx hb dL_wipes_20 ?_
  refine lv_if_lt (tgt := 28) hx hb dL_wipes_21 (by decide) (fun c => absurd c (lg_nlt ge0)) (fun _ => ?_)
  refine lv_iconst (v := 1) hx hb dL_wipes_24 (by decide) ?_
  refine lv_goto (tgt := 29) hx hb dL_wipes_25 (by decide) ?_
  refine lv_istore_n (lv' := [(1, .int (1 : Int32)), (2, .int (0 : Int32)), (0, .ref (q 0))]) hx hb dL_wipes_29 rfl hl (by decide) rfl (fun ls hl => ?_)
  refine lv_iinc (v := (1 : Int32)) (k := 1) (lv' := [(2, .int (1 : Int32)), (1, .int (1 : Int32)), (0, .ref (q 0))]) hx hb dL_wipes_30 hl rfl rfl (by decide) rfl (fun ls hl => ?_)
  refine lv_goto (tgt := 4) hx hb dL_wipes_33 (by decide) ?_
  refine lv_iload_n hx hb dL_wipes_4 rfl (lv_at hl 0 rfl) ?_
  refine lv_bipush (v := 6) hx hb dL_wipes_5 (by decide) ?_
  refine lv_icmp_ge (tgt := 36) hx hb dL_wipes_7 (by decide) (fun c => absurd c (by decide)) (fun _ => ?_)
  refine lv_iload_n hx hb dL_wipes_10 rfl (lv_at hl 1 rfl) ?_
  refine lv_if_eq (tgt := 28) hx hb dL_wipes_11 (by decide) (fun c => absurd c (by decide)) (fun _ => ?_)
  refine lv_aload_n hx hb dL_wipes_14 rfl (lv_at hl 2 rfl) ?_
  refine lv_iload_n hx hb dL_wipes_15 rfl (lv_at hl 0 rfl) ?_
  have hc := oz_wind l G cI cS cL ad mp q qn qt qs qH qx (o := o) hg (1 : Int32) (by decide +kernel)
  rw [hab] at hc
  obtain ⟨ev, ge1⟩ := wind_v (wpA_IA hI 1 (by decide)) (k := 1) (by decide)
  rw [show windA (wpA A 1) (1 : Int32) = ((zsg (wdZ (wpA A 1).1 1) 1 - zsg (wpA A 1).1 1).toInt64, wpA A 2) from ev] at hc
  refine co_callH (As := [.ref (q 0), .int (1 : Int32)]) (rest := []) hE hC X hP hD hS hA hc cpH_wind aw_562 ⟨Nat.le_of_ble_eq_true rfl, Nat.le_of_ble_eq_true rfl⟩ [0] (cs := [obC q qn qt qs qH qx cI cS ad o]) rfl (by decide) (fun u => [obC q qn qt qs qH qx cI cS ad u]) (fun _ => rfl) (fun _ => rfl) rfl hl.1 rfl (Nat.le_of_ble_eq_true rfl) dL_wipes_16 ⟨Nat.le_of_ble_eq_true rfl, Nat.le_of_ble_eq_true rfl⟩ (st1 := fun _ => [.long ((zsg (wdZ (wpA A 1).1 1) 1 - zsg (wpA A 1).1 1).toInt64)]) (fun _ => rfl) (fun u => [obC q qn qt qs qH qx cI cS ad u]) (fun _ => rfl) (fun o ho H locs hP hD hS => ?_)
  obtain ⟨hab, hg⟩ := ho
  have hab : aob o = wpA A 2 := hab
  refine lv_lconst (v := 0) hx hb dL_wipes_19 (by decide) ?_
  refine W.lcmp hx hb dL_wipes_20 ?_
  refine lv_if_lt (tgt := 28) hx hb dL_wipes_21 (by decide) (fun c => absurd c (lg_nlt ge1)) (fun _ => ?_)
  refine lv_iconst (v := 1) hx hb dL_wipes_24 (by decide) ?_
  refine lv_goto (tgt := 29) hx hb dL_wipes_25 (by decide) ?_
  refine lv_istore_n (lv' := [(1, .int (1 : Int32)), (2, .int (1 : Int32)), (0, .ref (q 0))]) hx hb dL_wipes_29 rfl hl (by decide) rfl (fun ls hl => ?_)
  refine lv_iinc (v := (2 : Int32)) (k := 1) (lv' := [(2, .int (2 : Int32)), (1, .int (1 : Int32)), (0, .ref (q 0))]) hx hb dL_wipes_30 hl rfl rfl (by decide) rfl (fun ls hl => ?_)
  refine lv_goto (tgt := 4) hx hb dL_wipes_33 (by decide) ?_
  refine lv_iload_n hx hb dL_wipes_4 rfl (lv_at hl 0 rfl) ?_
  refine lv_bipush (v := 6) hx hb dL_wipes_5 (by decide) ?_
  refine lv_icmp_ge (tgt := 36) hx hb dL_wipes_7 (by decide) (fun c => absurd c (by decide)) (fun _ => ?_)
  refine lv_iload_n hx hb dL_wipes_10 rfl (lv_at hl 1 rfl) ?_
  refine lv_if_eq (tgt := 28) hx hb dL_wipes_11 (by decide) (fun c => absurd c (by decide)) (fun _ => ?_)
  refine lv_aload_n hx hb dL_wipes_14 rfl (lv_at hl 2 rfl) ?_
  refine lv_iload_n hx hb dL_wipes_15 rfl (lv_at hl 0 rfl) ?_
  have hc := oz_wind l G cI cS cL ad mp q qn qt qs qH qx (o := o) hg (2 : Int32) (by decide +kernel)
  rw [hab] at hc
  obtain ⟨ev, ge2⟩ := wind_v (wpA_IA hI 2 (by decide)) (k := 2) (by decide)
  rw [show windA (wpA A 2) (2 : Int32) = ((zsg (wdZ (wpA A 2).1 2) 2 - zsg (wpA A 2).1 2).toInt64, wpA A 3) from ev] at hc
  refine co_callH (As := [.ref (q 0), .int (2 : Int32)]) (rest := []) hE hC X hP hD hS hA hc cpH_wind aw_562 ⟨Nat.le_of_ble_eq_true rfl, Nat.le_of_ble_eq_true rfl⟩ [0] (cs := [obC q qn qt qs qH qx cI cS ad o]) rfl (by decide) (fun u => [obC q qn qt qs qH qx cI cS ad u]) (fun _ => rfl) (fun _ => rfl) rfl hl.1 rfl (Nat.le_of_ble_eq_true rfl) dL_wipes_16 ⟨Nat.le_of_ble_eq_true rfl, Nat.le_of_ble_eq_true rfl⟩ (st1 := fun _ => [.long ((zsg (wdZ (wpA A 2).1 2) 2 - zsg (wpA A 2).1 2).toInt64)]) (fun _ => rfl) (fun u => [obC q qn qt qs qH qx cI cS ad u]) (fun _ => rfl) (fun o ho H locs hP hD hS => ?_)
  obtain ⟨hab, hg⟩ := ho
  have hab : aob o = wpA A 3 := hab
  refine lv_lconst (v := 0) hx hb dL_wipes_19 (by decide) ?_
  refine W.lcmp hx hb dL_wipes_20 ?_
  refine lv_if_lt (tgt := 28) hx hb dL_wipes_21 (by decide) (fun c => absurd c (lg_nlt ge2)) (fun _ => ?_)
  refine lv_iconst (v := 1) hx hb dL_wipes_24 (by decide) ?_
  refine lv_goto (tgt := 29) hx hb dL_wipes_25 (by decide) ?_
  refine lv_istore_n (lv' := [(1, .int (1 : Int32)), (2, .int (2 : Int32)), (0, .ref (q 0))]) hx hb dL_wipes_29 rfl hl (by decide) rfl (fun ls hl => ?_)
  refine lv_iinc (v := (3 : Int32)) (k := 1) (lv' := [(2, .int (3 : Int32)), (1, .int (1 : Int32)), (0, .ref (q 0))]) hx hb dL_wipes_30 hl rfl rfl (by decide) rfl (fun ls hl => ?_)
  refine lv_goto (tgt := 4) hx hb dL_wipes_33 (by decide) ?_
  refine lv_iload_n hx hb dL_wipes_4 rfl (lv_at hl 0 rfl) ?_
  refine lv_bipush (v := 6) hx hb dL_wipes_5 (by decide) ?_
  refine lv_icmp_ge (tgt := 36) hx hb dL_wipes_7 (by decide) (fun c => absurd c (by decide)) (fun _ => ?_)
  refine lv_iload_n hx hb dL_wipes_10 rfl (lv_at hl 1 rfl) ?_
  refine lv_if_eq (tgt := 28) hx hb dL_wipes_11 (by decide) (fun c => absurd c (by decide)) (fun _ => ?_)
  refine lv_aload_n hx hb dL_wipes_14 rfl (lv_at hl 2 rfl) ?_
  refine lv_iload_n hx hb dL_wipes_15 rfl (lv_at hl 0 rfl) ?_
  have hc := oz_wind l G cI cS cL ad mp q qn qt qs qH qx (o := o) hg (3 : Int32) (by decide +kernel)
  rw [hab] at hc
  obtain ⟨ev, ge3⟩ := wind_v (wpA_IA hI 3 (by decide)) (k := 3) (by decide)
  rw [show windA (wpA A 3) (3 : Int32) = ((zsg (wdZ (wpA A 3).1 3) 3 - zsg (wpA A 3).1 3).toInt64, wpA A 4) from ev] at hc
  refine co_callH (As := [.ref (q 0), .int (3 : Int32)]) (rest := []) hE hC X hP hD hS hA hc cpH_wind aw_562 ⟨Nat.le_of_ble_eq_true rfl, Nat.le_of_ble_eq_true rfl⟩ [0] (cs := [obC q qn qt qs qH qx cI cS ad o]) rfl (by decide) (fun u => [obC q qn qt qs qH qx cI cS ad u]) (fun _ => rfl) (fun _ => rfl) rfl hl.1 rfl (Nat.le_of_ble_eq_true rfl) dL_wipes_16 ⟨Nat.le_of_ble_eq_true rfl, Nat.le_of_ble_eq_true rfl⟩ (st1 := fun _ => [.long ((zsg (wdZ (wpA A 3).1 3) 3 - zsg (wpA A 3).1 3).toInt64)]) (fun _ => rfl) (fun u => [obC q qn qt qs qH qx cI cS ad u]) (fun _ => rfl) (fun o ho H locs hP hD hS => ?_)
  obtain ⟨hab, hg⟩ := ho
  have hab : aob o = wpA A 4 := hab
  refine lv_lconst (v := 0) hx hb dL_wipes_19 (by decide) ?_
  refine W.lcmp hx hb dL_wipes_20 ?_
  refine lv_if_lt (tgt := 28) hx hb dL_wipes_21 (by decide) (fun c => absurd c (lg_nlt ge3)) (fun _ => ?_)
  refine lv_iconst (v := 1) hx hb dL_wipes_24 (by decide) ?_
  refine lv_goto (tgt := 29) hx hb dL_wipes_25 (by decide) ?_
  refine lv_istore_n (lv' := [(1, .int (1 : Int32)), (2, .int (3 : Int32)), (0, .ref (q 0))]) hx hb dL_wipes_29 rfl hl (by decide) rfl (fun ls hl => ?_)
  refine lv_iinc (v := (4 : Int32)) (k := 1) (lv' := [(2, .int (4 : Int32)), (1, .int (1 : Int32)), (0, .ref (q 0))]) hx hb dL_wipes_30 hl rfl rfl (by decide) rfl (fun ls hl => ?_)
  refine lv_goto (tgt := 4) hx hb dL_wipes_33 (by decide) ?_
  refine lv_iload_n hx hb dL_wipes_4 rfl (lv_at hl 0 rfl) ?_
  refine lv_bipush (v := 6) hx hb dL_wipes_5 (by decide) ?_
  refine lv_icmp_ge (tgt := 36) hx hb dL_wipes_7 (by decide) (fun c => absurd c (by decide)) (fun _ => ?_)
  refine lv_iload_n hx hb dL_wipes_10 rfl (lv_at hl 1 rfl) ?_
  refine lv_if_eq (tgt := 28) hx hb dL_wipes_11 (by decide) (fun c => absurd c (by decide)) (fun _ => ?_)
  refine lv_aload_n hx hb dL_wipes_14 rfl (lv_at hl 2 rfl) ?_
  refine lv_iload_n hx hb dL_wipes_15 rfl (lv_at hl 0 rfl) ?_
  have hc := oz_wind l G cI cS cL ad mp q qn qt qs qH qx (o := o) hg (4 : Int32) (by decide +kernel)
  rw [hab] at hc
  obtain ⟨ev, ge4⟩ := wind_v (wpA_IA hI 4 (by decide)) (k := 4) (by decide)
  rw [show windA (wpA A 4) (4 : Int32) = ((zsg (wdZ (wpA A 4).1 4) 4 - zsg (wpA A 4).1 4).toInt64, wpA A 5) from ev] at hc
  refine co_callH (As := [.ref (q 0), .int (4 : Int32)]) (rest := []) hE hC X hP hD hS hA hc cpH_wind aw_562 ⟨Nat.le_of_ble_eq_true rfl, Nat.le_of_ble_eq_true rfl⟩ [0] (cs := [obC q qn qt qs qH qx cI cS ad o]) rfl (by decide) (fun u => [obC q qn qt qs qH qx cI cS ad u]) (fun _ => rfl) (fun _ => rfl) rfl hl.1 rfl (Nat.le_of_ble_eq_true rfl) dL_wipes_16 ⟨Nat.le_of_ble_eq_true rfl, Nat.le_of_ble_eq_true rfl⟩ (st1 := fun _ => [.long ((zsg (wdZ (wpA A 4).1 4) 4 - zsg (wpA A 4).1 4).toInt64)]) (fun _ => rfl) (fun u => [obC q qn qt qs qH qx cI cS ad u]) (fun _ => rfl) (fun o ho H locs hP hD hS => ?_)
  obtain ⟨hab, hg⟩ := ho
  have hab : aob o = wpA A 5 := hab
  refine lv_lconst (v := 0) hx hb dL_wipes_19 (by decide) ?_
  refine W.lcmp hx hb dL_wipes_20 ?_
  refine lv_if_lt (tgt := 28) hx hb dL_wipes_21 (by decide) (fun c => absurd c (lg_nlt ge4)) (fun _ => ?_)
  refine lv_iconst (v := 1) hx hb dL_wipes_24 (by decide) ?_
  refine lv_goto (tgt := 29) hx hb dL_wipes_25 (by decide) ?_
  refine lv_istore_n (lv' := [(1, .int (1 : Int32)), (2, .int (4 : Int32)), (0, .ref (q 0))]) hx hb dL_wipes_29 rfl hl (by decide) rfl (fun ls hl => ?_)
  refine lv_iinc (v := (5 : Int32)) (k := 1) (lv' := [(2, .int (5 : Int32)), (1, .int (1 : Int32)), (0, .ref (q 0))]) hx hb dL_wipes_30 hl rfl rfl (by decide) rfl (fun ls hl => ?_)
  refine lv_goto (tgt := 4) hx hb dL_wipes_33 (by decide) ?_
  refine lv_iload_n hx hb dL_wipes_4 rfl (lv_at hl 0 rfl) ?_
  refine lv_bipush (v := 6) hx hb dL_wipes_5 (by decide) ?_
  refine lv_icmp_ge (tgt := 36) hx hb dL_wipes_7 (by decide) (fun c => absurd c (by decide)) (fun _ => ?_)
  refine lv_iload_n hx hb dL_wipes_10 rfl (lv_at hl 1 rfl) ?_
  refine lv_if_eq (tgt := 28) hx hb dL_wipes_11 (by decide) (fun c => absurd c (by decide)) (fun _ => ?_)
  refine lv_aload_n hx hb dL_wipes_14 rfl (lv_at hl 2 rfl) ?_
  refine lv_iload_n hx hb dL_wipes_15 rfl (lv_at hl 0 rfl) ?_
  have hc := oz_wind l G cI cS cL ad mp q qn qt qs qH qx (o := o) hg (5 : Int32) (by decide +kernel)
  rw [hab] at hc
  obtain ⟨ev, ge5⟩ := wind_v (wpA_IA hI 5 (by decide)) (k := 5) (by decide)
  rw [show windA (wpA A 5) (5 : Int32) = ((zsg (wdZ (wpA A 5).1 5) 5 - zsg (wpA A 5).1 5).toInt64, wpA A 6) from ev] at hc
  refine co_callH (As := [.ref (q 0), .int (5 : Int32)]) (rest := []) hE hC X hP hD hS hA hc cpH_wind aw_562 ⟨Nat.le_of_ble_eq_true rfl, Nat.le_of_ble_eq_true rfl⟩ [0] (cs := [obC q qn qt qs qH qx cI cS ad o]) rfl (by decide) (fun u => [obC q qn qt qs qH qx cI cS ad u]) (fun _ => rfl) (fun _ => rfl) rfl hl.1 rfl (Nat.le_of_ble_eq_true rfl) dL_wipes_16 ⟨Nat.le_of_ble_eq_true rfl, Nat.le_of_ble_eq_true rfl⟩ (st1 := fun _ => [.long ((zsg (wdZ (wpA A 5).1 5) 5 - zsg (wpA A 5).1 5).toInt64)]) (fun _ => rfl) (fun u => [obC q qn qt qs qH qx cI cS ad u]) (fun _ => rfl) (fun o ho H locs hP hD hS => ?_)
  obtain ⟨hab, hg⟩ := ho
  have hab : aob o = wpA A 6 := hab
  refine lv_lconst (v := 0) hx hb dL_wipes_19 (by decide) ?_
  refine W.lcmp hx hb dL_wipes_20 ?_
  refine lv_if_lt (tgt := 28) hx hb dL_wipes_21 (by decide) (fun c => absurd c (lg_nlt ge5)) (fun _ => ?_)
  refine lv_iconst (v := 1) hx hb dL_wipes_24 (by decide) ?_
  refine lv_goto (tgt := 29) hx hb dL_wipes_25 (by decide) ?_
  refine lv_istore_n (lv' := [(1, .int (1 : Int32)), (2, .int (5 : Int32)), (0, .ref (q 0))]) hx hb dL_wipes_29 rfl hl (by decide) rfl (fun ls hl => ?_)
  refine lv_iinc (v := (6 : Int32)) (k := 1) (lv' := [(2, .int (6 : Int32)), (1, .int (1 : Int32)), (0, .ref (q 0))]) hx hb dL_wipes_30 hl rfl rfl (by decide) rfl (fun ls hl => ?_)
  refine lv_goto (tgt := 4) hx hb dL_wipes_33 (by decide) ?_
  refine lv_iload_n hx hb dL_wipes_4 rfl (lv_at hl 0 rfl) ?_
  refine lv_bipush (v := 6) hx hb dL_wipes_5 (by decide) ?_
  refine lv_icmp_ge (tgt := 36) hx hb dL_wipes_7 (by decide) (fun _ => ?_) (fun c => absurd (by decide) c)
  refine lv_iload_n hx hb dL_wipes_36 rfl (lv_at hl 1 rfl) ?_
  refine lv_if_eq (tgt := 57) hx hb dL_wipes_37 (by decide) (fun c => absurd c (by decide)) (fun _ => ?_)
  refine lv_aload_n hx hb dL_wipes_40 rfl (lv_at hl 2 rfl) ?_
  refine lv_bipush (v := 9) hx hb dL_wipes_41 (by decide) ?_
  have hc := oz_count l G cI cS cL ad mp q qn qt qs qH qx (o := o) hg (by rw [hab]; exact (wpA_IA hI 6 (by decide)).ns) (9 : Int32) (by decide)
  rw [hab] at hc
  rw [show countA (wpA A 6) (9 : Int32) = 6 from by unfold countA; rw [if_pos (by decide), wp_hist hI.2.2.2.1]; rfl] at hc
  refine co_callH (As := [.ref (q 0), .int (9 : Int32)]) (rest := []) hE hC X hP hD hS hA hc cpH_count aw_204 ⟨Nat.le_of_ble_eq_true rfl, Nat.le_of_ble_eq_true rfl⟩ [0] (cs := [obC q qn qt qs qH qx cI cS ad o]) rfl (by decide) (fun u => [obC q qn qt qs qH qx cI cS ad u]) (fun _ => rfl) (fun _ => rfl) rfl hl.1 rfl (Nat.le_of_ble_eq_true rfl) dL_wipes_43 ⟨Nat.le_of_ble_eq_true rfl, Nat.le_of_ble_eq_true rfl⟩ (st1 := fun _ => [.long (6 : Int64)]) (fun _ => rfl) (fun u => [obC q qn qt qs qH qx cI cS ad u]) (fun _ => rfl) (fun o ho H locs hP hD hS => ?_)
  obtain ⟨hab, hg⟩ := ho
  refine lv_ldc2 hx hb hown (hw _ aw_670) dL_wipes_46 ?_
  refine W.lcmp hx hb dL_wipes_49 ?_
  refine iv_ifne hx hb 57 dL_wipes_50 (by decide) (fun c => absurd (lg_self _) c) (fun _ => ?_)
  refine lv_iconst (v := 1) hx hb dL_wipes_53 (by decide) ?_
  refine lv_goto (tgt := 58) hx hb dL_wipes_54 (by decide) ?_
  rw [← hQQ]
  exact W.zret (v := (1 : Int32)) hx hb hr rfl (ct_endO o ⟨hab, hg⟩ rfl hP hD hS) hS.2.2 dL_wipes_58

set_option maxRecDepth 100000 in
set_option maxHeartbeats 4000000 in
theorem o_alike (l : Launch) (G : va_G) (cI cS cL : ClassId) (ad : Nat → Nat) (mp : Nat) (q qn qt qs qH qx : Nat → Nat) (r rn rt rs rH rx : Nat → Nat) {o : Ob} {o2 : Ob} (hg : Gd o) (hg2 : Gd o2) {bb : Nat} (hI : IA bb (aob o)) (he : aob o2 = aob o) (x : Nat) (hx31 : x < 2 ^ 31) : CtO l G (tyl cI cS cL) ad mp yL_alike (Cond.code yL_alike cL_alike 3 (some .boolean)) 8 181 0 0 [.ref (q 0), .ref (r 0), .int (nI x)] [obC q qn qt qs qH qx cI cS ad o, obC r rn rt rs rH rx cI cS ad o2].flatten (fun (u : Ob × Ob) => (aob u.1 = aob o ∧ Gd u.1) ∧ aob u.2 = aob o ∧ Gd u.2) (fun (_ : Ob × Ob) => some (.int (1 : Int32))) (fun (u : Ob × Ob) => [obC q qn qt qs qH qx cI cS ad u.1, obC r rn rt rs rH rx cI cS ad u.2].flatten) := by
  obtain ⟨A, hab⟩ : ∃ A, aob o = A := ⟨_, rfl⟩
  have hab2 : aob o2 = A := he.trans hab
  rw [hab] at hI ⊢
  refine CtO.of (by decide +kernel) (Nat.le_of_ble_eq_true rfl) ?_
  intro p e s m args below meth c A0 ls hx hb hr hml hw hown hlocks hK hN hC hE hP hD hS hA hl
  have hown : s.vm.findClass RL = some m.cls := hown
  have X : Cx p s m args c cL_alike 3 RL G (tyl cI cS cL) := ⟨hx, hb, hml, hown, hw, hK, hN⟩
  have hP : va_P G classes [obC q qn qt qs qH qx cI cS ad o, obC r rn rt rs rH rx cI cS ad o2].flatten s.heap := hP
  have hl : lv_has ls 3 [(0, .ref (q 0)), (1, .ref (r 0)), (2, .int (nI x))] := hl
  generalize hQQ : MQ below _ args s 0 0 A0 = QQ
  refine lv_aload_n hx hb dL_alike_0 rfl (lv_at hl 0 rfl) ?_
  have hc := o5_digest l G cI cS cL ad mp q qn qt qs qH qx (o := o) hg (by rw [hab]; exact hI.ns) (by rw [hab]; exact fun k hk => (hI.1.2.2.1 k hk).1)
  rw [hab] at hc
  refine co_callV (As := []) (rest := []) hE hC X hP hD hS hA hc cp_X5_digest aw_706 ⟨Nat.le_of_ble_eq_true rfl, Nat.le_of_ble_eq_true rfl⟩ [0] (cs := [obC q qn qt qs qH qx cI cS ad o]) rfl (by decide) (fun u => [obC q qn qt qs qH qx cI cS ad u]) (fun _ => rfl) (fun _ => rfl) 3 rfl rfl (q0 := 0) rfl rfl hl.1 rfl (Nat.le_of_ble_eq_true rfl) dL_alike_1 ⟨Nat.le_of_ble_eq_true rfl, Nat.le_of_ble_eq_true rfl⟩ (st1 := fun _ => [.long (digA A)]) (fun _ => rfl) (fun u => [obC q qn qt qs qH qx cI cS ad u, obC r rn rt rs rH rx cI cS ad o2]) (fun _ => rfl) (fun o ho H locs hP hD hS => ?_)
  obtain ⟨hab, hg⟩ := ho
  refine lv_aload_n hx hb dL_alike_4 rfl (lv_at hl 1 rfl) ?_
  have hc := o5_digest l G cI cS cL ad mp r rn rt rs rH rx (o := o2) hg2 (by rw [hab2]; exact hI.ns) (by rw [hab2]; exact fun k hk => (hI.1.2.2.1 k hk).1)
  rw [hab2] at hc
  refine co_callV (As := []) (rest := [.long (digA A)]) hE hC X hP hD hS hA hc cp_X5_digest aw_706 ⟨Nat.le_of_ble_eq_true rfl, Nat.le_of_ble_eq_true rfl⟩ [1] (cs := [obC r rn rt rs rH rx cI cS ad o2]) rfl (by decide) (fun u => [obC r rn rt rs rH rx cI cS ad u]) (fun _ => rfl) (fun _ => rfl) 3 rfl rfl (q0 := 0) rfl rfl hl.1 rfl (Nat.le_of_ble_eq_true rfl) dL_alike_5 ⟨Nat.le_of_ble_eq_true rfl, Nat.le_of_ble_eq_true rfl⟩ (st1 := fun _ => [.long (digA A), .long (digA A)]) (fun _ => rfl) (fun u => [obC q qn qt qs qH qx cI cS ad o, obC r rn rt rs rH rx cI cS ad u]) (fun _ => rfl) (fun o2 ho H locs hP hD hS => ?_)
  obtain ⟨hab2, hg2⟩ := ho
  refine W.lcmp hx hb dL_alike_8 ?_
  refine iv_ifne hx hb 83 dL_alike_9 (by decide) (fun c => absurd (lg_self _) c) (fun _ => ?_)
  refine lv_aload_n hx hb dL_alike_12 rfl (lv_at hl 0 rfl) ?_
  have hc := o5_firstError l G cI cS cL ad mp q qn qt qs qH qx (o := o) hg
  rw [hab] at hc
  refine co_callV (As := []) (rest := []) hE hC X hP hD hS hA hc cp_X5_firstError aw_761 ⟨Nat.le_of_ble_eq_true rfl, Nat.le_of_ble_eq_true rfl⟩ [0] (cs := [obC q qn qt qs qH qx cI cS ad o]) rfl (by decide) (fun u => [obC q qn qt qs qH qx cI cS ad u]) (fun _ => rfl) (fun _ => rfl) 3 rfl rfl (q0 := 0) rfl rfl hl.1 rfl (Nat.le_of_ble_eq_true rfl) dL_alike_13 ⟨Nat.le_of_ble_eq_true rfl, Nat.le_of_ble_eq_true rfl⟩ (st1 := fun _ => [.int (firstV A)]) (fun _ => rfl) (fun u => [obC q qn qt qs qH qx cI cS ad u, obC r rn rt rs rH rx cI cS ad o2]) (fun _ => rfl) (fun o ho H locs hP hD hS => ?_)
  obtain ⟨hab, hg⟩ := ho
  refine lv_aload_n hx hb dL_alike_16 rfl (lv_at hl 1 rfl) ?_
  have hc := o5_firstError l G cI cS cL ad mp r rn rt rs rH rx (o := o2) hg2
  rw [hab2] at hc
  refine co_callV (As := []) (rest := [.int (firstV A)]) hE hC X hP hD hS hA hc cp_X5_firstError aw_761 ⟨Nat.le_of_ble_eq_true rfl, Nat.le_of_ble_eq_true rfl⟩ [1] (cs := [obC r rn rt rs rH rx cI cS ad o2]) rfl (by decide) (fun u => [obC r rn rt rs rH rx cI cS ad u]) (fun _ => rfl) (fun _ => rfl) 3 rfl rfl (q0 := 0) rfl rfl hl.1 rfl (Nat.le_of_ble_eq_true rfl) dL_alike_17 ⟨Nat.le_of_ble_eq_true rfl, Nat.le_of_ble_eq_true rfl⟩ (st1 := fun _ => [.int (firstV A), .int (firstV A)]) (fun _ => rfl) (fun u => [obC q qn qt qs qH qx cI cS ad o, obC r rn rt rs rH rx cI cS ad u]) (fun _ => rfl) (fun o2 ho H locs hP hD hS => ?_)
  obtain ⟨hab2, hg2⟩ := ho
  refine iv_ne hx hb 83 dL_alike_20 (by decide) (fun c => absurd rfl c) (fun _ => ?_)
  refine lv_aload_n hx hb dL_alike_23 rfl (lv_at hl 0 rfl) ?_
  refine lv_iload_n hx hb dL_alike_24 rfl (lv_at hl 2 rfl) ?_
  refine lv_iconst (v := 3) hx hb dL_alike_25 (by decide) ?_
  refine nv_irem hx hb x 3 (by omega) (by omega) (by omega) dL_alike_26 ?_
  have hc := oz_bestGive l G cI cS cL ad mp q qn qt qs qH qx (o := o) hg (by rw [hab]; exact hI.ns) (nI ((x % 3))) (bm_ok (by omega))
  rw [hab] at hc
  refine co_callH (As := [.ref (q 0), .int (nI ((x % 3)))]) (rest := []) hE hC X hP hD hS hA hc cpH_bestGive aw_651 ⟨Nat.le_of_ble_eq_true rfl, Nat.le_of_ble_eq_true rfl⟩ [0] (cs := [obC q qn qt qs qH qx cI cS ad o]) rfl (by decide) (fun u => [obC q qn qt qs qH qx cI cS ad u]) (fun _ => rfl) (fun _ => rfl) rfl hl.1 rfl (Nat.le_of_ble_eq_true rfl) dL_alike_27 ⟨Nat.le_of_ble_eq_true rfl, Nat.le_of_ble_eq_true rfl⟩ (st1 := fun _ => [.long (bestA A (nI ((x % 3))))]) (fun _ => rfl) (fun u => [obC q qn qt qs qH qx cI cS ad u, obC r rn rt rs rH rx cI cS ad o2]) (fun _ => rfl) (fun o ho H locs hP hD hS => ?_)
  obtain ⟨hab, hg⟩ := ho
  refine lv_aload_n hx hb dL_alike_30 rfl (lv_at hl 1 rfl) ?_
  refine lv_iload_n hx hb dL_alike_31 rfl (lv_at hl 2 rfl) ?_
  refine lv_iconst (v := 3) hx hb dL_alike_32 (by decide) ?_
  refine nv_irem hx hb x 3 (by omega) (by omega) (by omega) dL_alike_33 ?_
  have hc := oz_bestGive l G cI cS cL ad mp r rn rt rs rH rx (o := o2) hg2 (by rw [hab2]; exact hI.ns) (nI ((x % 3))) (bm_ok (by omega))
  rw [hab2] at hc
  refine co_callH (As := [.ref (r 0), .int (nI ((x % 3)))]) (rest := [.long (bestA A (nI ((x % 3))))]) hE hC X hP hD hS hA hc cpH_bestGive aw_651 ⟨Nat.le_of_ble_eq_true rfl, Nat.le_of_ble_eq_true rfl⟩ [1] (cs := [obC r rn rt rs rH rx cI cS ad o2]) rfl (by decide) (fun u => [obC r rn rt rs rH rx cI cS ad u]) (fun _ => rfl) (fun _ => rfl) rfl hl.1 rfl (Nat.le_of_ble_eq_true rfl) dL_alike_34 ⟨Nat.le_of_ble_eq_true rfl, Nat.le_of_ble_eq_true rfl⟩ (st1 := fun _ => [.long (bestA A (nI ((x % 3)))), .long (bestA A (nI ((x % 3))))]) (fun _ => rfl) (fun u => [obC q qn qt qs qH qx cI cS ad o, obC r rn rt rs rH rx cI cS ad u]) (fun _ => rfl) (fun o2 ho H locs hP hD hS => ?_)
  obtain ⟨hab2, hg2⟩ := ho
  refine W.lcmp hx hb dL_alike_37 ?_
  refine iv_ifne hx hb 83 dL_alike_38 (by decide) (fun c => absurd (lg_self _) c) (fun _ => ?_)
  refine lv_aload_n hx hb dL_alike_41 rfl (lv_at hl 0 rfl) ?_
  refine lv_iload_n hx hb dL_alike_42 rfl (lv_at hl 2 rfl) ?_
  refine lv_bipush (v := 8) hx hb dL_alike_43 (by decide) ?_
  refine nv_irem hx hb x 8 (by omega) (by omega) (by omega) dL_alike_45 ?_
  refine lv_iload_n hx hb dL_alike_46 rfl (lv_at hl 2 rfl) ?_
  refine lv_bipush (v := 8) hx hb dL_alike_47 (by decide) ?_
  refine nv_irem hx hb x 8 (by omega) (by omega) (by omega) dL_alike_49 ?_
  refine lv_iconst (v := 1) hx hb dL_alike_50 (by decide) ?_
  refine nv_iadd hx hb (x % 8) 1 dL_alike_51 ?_
  refine lv_bipush (v := 8) hx hb dL_alike_52 (by decide) ?_
  refine nv_irem hx hb ((x % 8) + 1) 8 (by omega) (by omega) (by omega) dL_alike_54 ?_
  have hc := oz_lockedIn l G cI cS cL ad mp q qn qt qs qH qx (o := o) hg (nI ((x % 8))) (nI ((((x % 8) + 1) % 8))) (par_ok (by omega) (by omega) (by omega))
  rw [hab] at hc
  refine co_callH (As := [.ref (q 0), .int (nI ((x % 8))), .int (nI ((((x % 8) + 1) % 8)))]) (rest := []) hE hC X hP hD hS hA hc cpH_lockedIn aw_638 ⟨Nat.le_of_ble_eq_true rfl, Nat.le_of_ble_eq_true rfl⟩ [0] (cs := [obC q qn qt qs qH qx cI cS ad o]) rfl (by decide) (fun u => [obC q qn qt qs qH qx cI cS ad u]) (fun _ => rfl) (fun _ => rfl) rfl hl.1 rfl (Nat.le_of_ble_eq_true rfl) dL_alike_55 ⟨Nat.le_of_ble_eq_true rfl, Nat.le_of_ble_eq_true rfl⟩ (st1 := fun _ => [.long (lockA A (nI ((x % 8))) (nI ((((x % 8) + 1) % 8))))]) (fun _ => rfl) (fun u => [obC q qn qt qs qH qx cI cS ad u, obC r rn rt rs rH rx cI cS ad o2]) (fun _ => rfl) (fun o ho H locs hP hD hS => ?_)
  obtain ⟨hab, hg⟩ := ho
  refine lv_aload_n hx hb dL_alike_58 rfl (lv_at hl 1 rfl) ?_
  refine lv_iload_n hx hb dL_alike_59 rfl (lv_at hl 2 rfl) ?_
  refine lv_bipush (v := 8) hx hb dL_alike_60 (by decide) ?_
  refine nv_irem hx hb x 8 (by omega) (by omega) (by omega) dL_alike_62 ?_
  refine lv_iload_n hx hb dL_alike_63 rfl (lv_at hl 2 rfl) ?_
  refine lv_bipush (v := 8) hx hb dL_alike_64 (by decide) ?_
  refine nv_irem hx hb x 8 (by omega) (by omega) (by omega) dL_alike_66 ?_
  refine lv_iconst (v := 1) hx hb dL_alike_67 (by decide) ?_
  refine nv_iadd hx hb (x % 8) 1 dL_alike_68 ?_
  refine lv_bipush (v := 8) hx hb dL_alike_69 (by decide) ?_
  refine nv_irem hx hb ((x % 8) + 1) 8 (by omega) (by omega) (by omega) dL_alike_71 ?_
  have hc := oz_lockedIn l G cI cS cL ad mp r rn rt rs rH rx (o := o2) hg2 (nI ((x % 8))) (nI ((((x % 8) + 1) % 8))) (par_ok (by omega) (by omega) (by omega))
  rw [hab2] at hc
  refine co_callH (As := [.ref (r 0), .int (nI ((x % 8))), .int (nI ((((x % 8) + 1) % 8)))]) (rest := [.long (lockA A (nI ((x % 8))) (nI ((((x % 8) + 1) % 8))))]) hE hC X hP hD hS hA hc cpH_lockedIn aw_638 ⟨Nat.le_of_ble_eq_true rfl, Nat.le_of_ble_eq_true rfl⟩ [1] (cs := [obC r rn rt rs rH rx cI cS ad o2]) rfl (by decide) (fun u => [obC r rn rt rs rH rx cI cS ad u]) (fun _ => rfl) (fun _ => rfl) rfl hl.1 rfl (Nat.le_of_ble_eq_true rfl) dL_alike_72 ⟨Nat.le_of_ble_eq_true rfl, Nat.le_of_ble_eq_true rfl⟩ (st1 := fun _ => [.long (lockA A (nI ((x % 8))) (nI ((((x % 8) + 1) % 8)))), .long (lockA A (nI ((x % 8))) (nI ((((x % 8) + 1) % 8))))]) (fun _ => rfl) (fun u => [obC q qn qt qs qH qx cI cS ad o, obC r rn rt rs rH rx cI cS ad u]) (fun _ => rfl) (fun o2 ho H locs hP hD hS => ?_)
  obtain ⟨hab2, hg2⟩ := ho
  refine W.lcmp hx hb dL_alike_75 ?_
  refine iv_ifne hx hb 83 dL_alike_76 (by decide) (fun c => absurd (lg_self _) c) (fun _ => ?_)
  refine lv_iconst (v := 1) hx hb dL_alike_79 (by decide) ?_
  refine lv_goto (tgt := 84) hx hb dL_alike_80 (by decide) ?_
  rw [← hQQ]
  exact W.zret (v := (1 : Int32)) hx hb hr rfl (ct_endO (o, o2) ⟨⟨hab, hg⟩, hab2, hg2⟩ rfl hP hD hS) hS.2.2 dL_alike_84
