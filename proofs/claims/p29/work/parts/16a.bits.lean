theorem nv_ldcwf {p : Program} {l : Launch} {e : Env} {R : Room} {s : State} {m : MethodId} {args : Array Value} {below : List Frame} {meth : Method} {c : Code} {H : Heap} {locs : List Loc} {cells slots : Nat} {Q : State → Prop} {cc : ByteArray} {pc : Nat} {ls : Array Slot} {rest : List Value} (hexec : p.tables.exec = Jvm.exec) (hb : c.code = cc) {own : String} {index : Nat} {v : UInt32} (hown : s.vm.findClass own = some m.cls) (hconst : (Jvm.Cond.constantFloat own index v).before args s = true) (hdg : decode cc pc = .ok (.ldc_w index, 3)) (k : W p l e R s m args below meth c H locs cells slots Q (F0 m (pc + 3) ls (.float v :: rest))) : W p l e R s m args below meth c H locs cells slots Q (F0 m pc ls rest) := by
  intro T hT X
  obtain ⟨t, a, b⟩ := k T hT X
  refine ⟨t, ?_, b⟩
  obtain ⟨k9, cf, hk, hcf, hcp⟩ := Cond.constantFloat_spec hown hconst
  obtain ⟨k', hk', he⟩ := X.warmed.alike.2.2 _ _ hk
  have hdg2 : decode c.code pc = .ok (.ldc_w index, 3) := by rw [hb]; exact hdg
  jvm_step X.here [hexec, hdg2, ldc_w.wp_float (s := T) (f := F0 m pc ls rest) X.here.top hk' (by rw [he]; exact hcf) hcp]
  exact a
def f_X5_bitsOfDouble_m3 (x : UInt64) : Int64 := ((((((1023 : Int64) - (1 : Int64)) - (1 : Int64)) - (1 : Int64)) <<< ((52 : Int32).toInt64 &&& 63)) + (FP.d2l (FP.dmul (FP.dsub (FP.dmul (FP.dmul (FP.dmul x (4611686018427387904 : UInt64)) (4611686018427387904 : UInt64)) (4611686018427387904 : UInt64)) FP.dconst1) (4841369599423283200 : UInt64))))
set_option maxRecDepth 100000 in
set_option maxHeartbeats 4000000 in
theorem k_X5_bitsOfDouble_m3 (l : Launch) (G : va_G) (cI cS cL : ClassId) (x : UInt64) (hk21_0 : ¬ (0 ≤ (Op.cmpValue (FP.dcmp x FP.dconst1) .g))) (hn28_0 : vf_n64 (FP.dmul x (4611686018427387904 : UInt64))) (hk21_1 : ¬ (0 ≤ (Op.cmpValue (FP.dcmp (FP.dmul x (4611686018427387904 : UInt64)) FP.dconst1) .g))) (hn28_1 : vf_n64 (FP.dmul (FP.dmul x (4611686018427387904 : UInt64)) (4611686018427387904 : UInt64))) (hk21_2 : ¬ (0 ≤ (Op.cmpValue (FP.dcmp (FP.dmul (FP.dmul x (4611686018427387904 : UInt64)) (4611686018427387904 : UInt64)) FP.dconst1) .g))) (hn28_2 : vf_n64 (FP.dmul (FP.dmul (FP.dmul x (4611686018427387904 : UInt64)) (4611686018427387904 : UInt64)) (4611686018427387904 : UInt64))) (hk21_3 : 0 ≤ (Op.cmpValue (FP.dcmp (FP.dmul (FP.dmul (FP.dmul x (4611686018427387904 : UInt64)) (4611686018427387904 : UInt64)) (4611686018427387904 : UInt64)) FP.dconst1) .g)) (hn44_0 : vf_n64 (FP.dsub (FP.dmul (FP.dmul (FP.dmul x (4611686018427387904 : UInt64)) (4611686018427387904 : UInt64)) (4611686018427387904 : UInt64)) FP.dconst1)) (hn48_0 : vf_n64 (FP.dmul (FP.dsub (FP.dmul (FP.dmul (FP.dmul x (4611686018427387904 : UInt64)) (4611686018427387904 : UInt64)) (4611686018427387904 : UInt64)) FP.dconst1) (4841369599423283200 : UInt64))) : Ct l G (tyl cI cS cL) yX5_bitsOfDouble cX5_bitsOfDouble 8 (some (Jvm.ClassFile.FieldType.long)) 0 0 0 0 [.double x] [].flatten (f_X5_bitsOfDouble_m3 x) (fun u => some (.long u)) (fun _ => [].flatten) := by
  refine Ct.of (by decide +kernel) (Nat.le_of_ble_eq_true rfl) ?_
  intro p e s m args below meth c A ls hx hb hr hml hw hown hlocks hin hK hN hP hD hS hA hl
  have hown : s.vm.findClass RX5 = some m.cls := hown
  have X : Cx p s m args c cX5_bitsOfDouble 8 RX5 G (tyl cI cS cL) := ⟨hx, hb, hml, hown, hw, hK, hN⟩
  have hP : va_P G classes [].flatten s.heap := hP
  have hl : lv_has ls 8 [(0, .double x)] := hl
  generalize hQQ : MQ below _ args s 0 0 A = QQ
  refine lv_dload_n hx hb dX5_bitsOfDouble_0 rfl (lv_at hl 0 rfl) ?_
  refine lv_dstore_n (lv' := [(2, .double x), (0, .double x)]) hx hb dX5_bitsOfDouble_1 rfl hl (by decide) rfl (fun ls hl => ?_)
  refine lv_ldc2 hx hb hown (hw _ aw_737) dX5_bitsOfDouble_2 ?_
  refine lv_lstore (lv' := [(4, .long (1023 : Int64)), (2, .double x), (0, .double x)]) hx hb dX5_bitsOfDouble_5 hl (by decide) rfl (fun ls hl => ?_)
  refine lv_iconst (v := 0) hx hb dX5_bitsOfDouble_7 (by decide) ?_
  refine lv_istore (lv' := [(6, .int (0 : Int32)), (4, .long (1023 : Int64)), (2, .double x), (0, .double x)]) hx hb dX5_bitsOfDouble_8 hl (by decide) rfl (fun ls hl => ?_)
  refine lv_iload hx hb dX5_bitsOfDouble_10 (lv_at hl 0 rfl) ?_
  refine lv_sipush (v := 1023) hx hb dX5_bitsOfDouble_12 (by decide) ?_
  refine nv_ge hx hb 0 1023 42 (by omega) (by omega) dX5_bitsOfDouble_15 (by decide) (fun c => absurd c (by decide)) (fun c_1 => ?_)
  refine lv_dload_n hx hb dX5_bitsOfDouble_18 rfl (lv_at hl 2 rfl) ?_
  refine lv_dconst1 hx hb dX5_bitsOfDouble_19 ?_
  refine lv_dcmp hx hb dX5_bitsOfDouble_20 ?_
  refine lv_if_ge (tgt := 42) hx hb dX5_bitsOfDouble_21 (by decide) (fun c => absurd c hk21_0) (fun c_2 => ?_)
  refine lv_dload_n hx hb dX5_bitsOfDouble_24 rfl (lv_at hl 2 rfl) ?_
  refine lv_ldc2d hx hb hown (hw _ aw_738) dX5_bitsOfDouble_25 ?_
  refine lv_dmul hx hb dX5_bitsOfDouble_28 hn28_0 ?_
  refine lv_dstore_n (lv' := [(2, .double (FP.dmul x (4611686018427387904 : UInt64))), (6, .int (0 : Int32)), (4, .long (1023 : Int64)), (0, .double x)]) hx hb dX5_bitsOfDouble_29 rfl hl (by decide) rfl (fun ls hl => ?_)
  refine lv_lload hx hb dX5_bitsOfDouble_30 (lv_at hl 2 rfl) ?_
  refine lv_lconst (v := 1) hx hb dX5_bitsOfDouble_32 (by decide) ?_
  refine lv_lsub hx hb dX5_bitsOfDouble_33 ?_
  refine lv_lstore (lv' := [(4, .long ((1023 : Int64) - (1 : Int64))), (2, .double (FP.dmul x (4611686018427387904 : UInt64))), (6, .int (0 : Int32)), (0, .double x)]) hx hb dX5_bitsOfDouble_34 hl (by decide) rfl (fun ls hl => ?_)
  refine lv_iinc (v := 1) (k := 2) (lv' := [(6, .int (1 : Int32)), (4, .long ((1023 : Int64) - (1 : Int64))), (2, .double (FP.dmul x (4611686018427387904 : UInt64))), (0, .double x)]) hx hb dX5_bitsOfDouble_36 hl rfl rfl (by decide) rfl (fun ls hl => ?_)
  refine lv_goto (tgt := 10) hx hb dX5_bitsOfDouble_39 (by decide) ?_
  refine lv_iload hx hb dX5_bitsOfDouble_10 (lv_at hl 0 rfl) ?_
  refine lv_sipush (v := 1023) hx hb dX5_bitsOfDouble_12 (by decide) ?_
  refine nv_ge hx hb 1 1023 42 (by omega) (by omega) dX5_bitsOfDouble_15 (by decide) (fun c => absurd c (by decide)) (fun c_3 => ?_)
  refine lv_dload_n hx hb dX5_bitsOfDouble_18 rfl (lv_at hl 2 rfl) ?_
  refine lv_dconst1 hx hb dX5_bitsOfDouble_19 ?_
  refine lv_dcmp hx hb dX5_bitsOfDouble_20 ?_
  refine lv_if_ge (tgt := 42) hx hb dX5_bitsOfDouble_21 (by decide) (fun c => absurd c hk21_1) (fun c_4 => ?_)
  refine lv_dload_n hx hb dX5_bitsOfDouble_24 rfl (lv_at hl 2 rfl) ?_
  refine lv_ldc2d hx hb hown (hw _ aw_738) dX5_bitsOfDouble_25 ?_
  refine lv_dmul hx hb dX5_bitsOfDouble_28 hn28_1 ?_
  refine lv_dstore_n (lv' := [(2, .double (FP.dmul (FP.dmul x (4611686018427387904 : UInt64)) (4611686018427387904 : UInt64))), (6, .int (1 : Int32)), (4, .long ((1023 : Int64) - (1 : Int64))), (0, .double x)]) hx hb dX5_bitsOfDouble_29 rfl hl (by decide) rfl (fun ls hl => ?_)
  refine lv_lload hx hb dX5_bitsOfDouble_30 (lv_at hl 2 rfl) ?_
  refine lv_lconst (v := 1) hx hb dX5_bitsOfDouble_32 (by decide) ?_
  refine lv_lsub hx hb dX5_bitsOfDouble_33 ?_
  refine lv_lstore (lv' := [(4, .long (((1023 : Int64) - (1 : Int64)) - (1 : Int64))), (2, .double (FP.dmul (FP.dmul x (4611686018427387904 : UInt64)) (4611686018427387904 : UInt64))), (6, .int (1 : Int32)), (0, .double x)]) hx hb dX5_bitsOfDouble_34 hl (by decide) rfl (fun ls hl => ?_)
  refine lv_iinc (v := 2) (k := 2) (lv' := [(6, .int (2 : Int32)), (4, .long (((1023 : Int64) - (1 : Int64)) - (1 : Int64))), (2, .double (FP.dmul (FP.dmul x (4611686018427387904 : UInt64)) (4611686018427387904 : UInt64))), (0, .double x)]) hx hb dX5_bitsOfDouble_36 hl rfl rfl (by decide) rfl (fun ls hl => ?_)
  refine lv_goto (tgt := 10) hx hb dX5_bitsOfDouble_39 (by decide) ?_
  refine lv_iload hx hb dX5_bitsOfDouble_10 (lv_at hl 0 rfl) ?_
  refine lv_sipush (v := 1023) hx hb dX5_bitsOfDouble_12 (by decide) ?_
  refine nv_ge hx hb 2 1023 42 (by omega) (by omega) dX5_bitsOfDouble_15 (by decide) (fun c => absurd c (by decide)) (fun c_5 => ?_)
  refine lv_dload_n hx hb dX5_bitsOfDouble_18 rfl (lv_at hl 2 rfl) ?_
  refine lv_dconst1 hx hb dX5_bitsOfDouble_19 ?_
  refine lv_dcmp hx hb dX5_bitsOfDouble_20 ?_
  refine lv_if_ge (tgt := 42) hx hb dX5_bitsOfDouble_21 (by decide) (fun c => absurd c hk21_2) (fun c_6 => ?_)
  refine lv_dload_n hx hb dX5_bitsOfDouble_24 rfl (lv_at hl 2 rfl) ?_
  refine lv_ldc2d hx hb hown (hw _ aw_738) dX5_bitsOfDouble_25 ?_
  refine lv_dmul hx hb dX5_bitsOfDouble_28 hn28_2 ?_
  refine lv_dstore_n (lv' := [(2, .double (FP.dmul (FP.dmul (FP.dmul x (4611686018427387904 : UInt64)) (4611686018427387904 : UInt64)) (4611686018427387904 : UInt64))), (6, .int (2 : Int32)), (4, .long (((1023 : Int64) - (1 : Int64)) - (1 : Int64))), (0, .double x)]) hx hb dX5_bitsOfDouble_29 rfl hl (by decide) rfl (fun ls hl => ?_)
  refine lv_lload hx hb dX5_bitsOfDouble_30 (lv_at hl 2 rfl) ?_
  refine lv_lconst (v := 1) hx hb dX5_bitsOfDouble_32 (by decide) ?_
  refine lv_lsub hx hb dX5_bitsOfDouble_33 ?_
  refine lv_lstore (lv' := [(4, .long ((((1023 : Int64) - (1 : Int64)) - (1 : Int64)) - (1 : Int64))), (2, .double (FP.dmul (FP.dmul (FP.dmul x (4611686018427387904 : UInt64)) (4611686018427387904 : UInt64)) (4611686018427387904 : UInt64))), (6, .int (2 : Int32)), (0, .double x)]) hx hb dX5_bitsOfDouble_34 hl (by decide) rfl (fun ls hl => ?_)
  refine lv_iinc (v := 3) (k := 2) (lv' := [(6, .int (3 : Int32)), (4, .long ((((1023 : Int64) - (1 : Int64)) - (1 : Int64)) - (1 : Int64))), (2, .double (FP.dmul (FP.dmul (FP.dmul x (4611686018427387904 : UInt64)) (4611686018427387904 : UInt64)) (4611686018427387904 : UInt64))), (0, .double x)]) hx hb dX5_bitsOfDouble_36 hl rfl rfl (by decide) rfl (fun ls hl => ?_)
  refine lv_goto (tgt := 10) hx hb dX5_bitsOfDouble_39 (by decide) ?_
  refine lv_iload hx hb dX5_bitsOfDouble_10 (lv_at hl 0 rfl) ?_
  refine lv_sipush (v := 1023) hx hb dX5_bitsOfDouble_12 (by decide) ?_
  refine nv_ge hx hb 3 1023 42 (by omega) (by omega) dX5_bitsOfDouble_15 (by decide) (fun c => absurd c (by decide)) (fun c_7 => ?_)
  refine lv_dload_n hx hb dX5_bitsOfDouble_18 rfl (lv_at hl 2 rfl) ?_
  refine lv_dconst1 hx hb dX5_bitsOfDouble_19 ?_
  refine lv_dcmp hx hb dX5_bitsOfDouble_20 ?_
  refine lv_if_ge (tgt := 42) hx hb dX5_bitsOfDouble_21 (by decide) (fun c_8 => ?_) (fun c => absurd hk21_3 c)
  refine lv_dload_n hx hb dX5_bitsOfDouble_42 rfl (lv_at hl 2 rfl) ?_
  refine lv_dconst1 hx hb dX5_bitsOfDouble_43 ?_
  refine lv_dsub hx hb dX5_bitsOfDouble_44 hn44_0 ?_
  refine lv_ldc2d hx hb hown (hw _ aw_739) dX5_bitsOfDouble_45 ?_
  refine lv_dmul hx hb dX5_bitsOfDouble_48 hn48_0 ?_
  refine lv_d2l hx hb dX5_bitsOfDouble_49 ?_
  refine lv_lstore (lv' := [(6, .long (FP.d2l (FP.dmul (FP.dsub (FP.dmul (FP.dmul (FP.dmul x (4611686018427387904 : UInt64)) (4611686018427387904 : UInt64)) (4611686018427387904 : UInt64)) FP.dconst1) (4841369599423283200 : UInt64)))), (4, .long ((((1023 : Int64) - (1 : Int64)) - (1 : Int64)) - (1 : Int64))), (2, .double (FP.dmul (FP.dmul (FP.dmul x (4611686018427387904 : UInt64)) (4611686018427387904 : UInt64)) (4611686018427387904 : UInt64))), (0, .double x)]) hx hb dX5_bitsOfDouble_50 hl (by decide) rfl (fun ls hl => ?_)
  refine lv_lload hx hb dX5_bitsOfDouble_52 (lv_at hl 1 rfl) ?_
  refine lv_bipush (v := 52) hx hb dX5_bitsOfDouble_54 (by decide) ?_
  refine lv_lshl hx hb dX5_bitsOfDouble_56 rfl ?_
  refine lv_lload hx hb dX5_bitsOfDouble_57 (lv_at hl 0 rfl) ?_
  refine lv_ladd hx hb dX5_bitsOfDouble_59 ?_
  rw [← hQQ]; exact W.lret hx hb hr (ct_end (F := (f_X5_bitsOfDouble_m3 x)) (u := ((((((1023 : Int64) - (1 : Int64)) - (1 : Int64)) - (1 : Int64)) <<< ((52 : Int32).toInt64 &&& 63)) + (FP.d2l (FP.dmul (FP.dsub (FP.dmul (FP.dmul (FP.dmul x (4611686018427387904 : UInt64)) (4611686018427387904 : UInt64)) (4611686018427387904 : UInt64)) FP.dconst1) (4841369599423283200 : UInt64))))) (rf := (fun u => some (.long u))) (wf := (fun _ => [].flatten)) rfl rfl hP hD hS) hS.2.2 dX5_bitsOfDouble_60
def f_X5_bitsOfDouble_m2 (x : UInt64) : Int64 := (((((1023 : Int64) - (1 : Int64)) - (1 : Int64)) <<< ((52 : Int32).toInt64 &&& 63)) + (FP.d2l (FP.dmul (FP.dsub (FP.dmul (FP.dmul x (4611686018427387904 : UInt64)) (4611686018427387904 : UInt64)) FP.dconst1) (4841369599423283200 : UInt64))))
set_option maxRecDepth 100000 in
set_option maxHeartbeats 4000000 in
theorem k_X5_bitsOfDouble_m2 (l : Launch) (G : va_G) (cI cS cL : ClassId) (x : UInt64) (hk21_0 : ¬ (0 ≤ (Op.cmpValue (FP.dcmp x FP.dconst1) .g))) (hn28_0 : vf_n64 (FP.dmul x (4611686018427387904 : UInt64))) (hk21_1 : ¬ (0 ≤ (Op.cmpValue (FP.dcmp (FP.dmul x (4611686018427387904 : UInt64)) FP.dconst1) .g))) (hn28_1 : vf_n64 (FP.dmul (FP.dmul x (4611686018427387904 : UInt64)) (4611686018427387904 : UInt64))) (hk21_2 : 0 ≤ (Op.cmpValue (FP.dcmp (FP.dmul (FP.dmul x (4611686018427387904 : UInt64)) (4611686018427387904 : UInt64)) FP.dconst1) .g)) (hn44_0 : vf_n64 (FP.dsub (FP.dmul (FP.dmul x (4611686018427387904 : UInt64)) (4611686018427387904 : UInt64)) FP.dconst1)) (hn48_0 : vf_n64 (FP.dmul (FP.dsub (FP.dmul (FP.dmul x (4611686018427387904 : UInt64)) (4611686018427387904 : UInt64)) FP.dconst1) (4841369599423283200 : UInt64))) : Ct l G (tyl cI cS cL) yX5_bitsOfDouble cX5_bitsOfDouble 8 (some (Jvm.ClassFile.FieldType.long)) 0 0 0 0 [.double x] [].flatten (f_X5_bitsOfDouble_m2 x) (fun u => some (.long u)) (fun _ => [].flatten) := by
  refine Ct.of (by decide +kernel) (Nat.le_of_ble_eq_true rfl) ?_
  intro p e s m args below meth c A ls hx hb hr hml hw hown hlocks hin hK hN hP hD hS hA hl
  have hown : s.vm.findClass RX5 = some m.cls := hown
  have X : Cx p s m args c cX5_bitsOfDouble 8 RX5 G (tyl cI cS cL) := ⟨hx, hb, hml, hown, hw, hK, hN⟩
  have hP : va_P G classes [].flatten s.heap := hP
  have hl : lv_has ls 8 [(0, .double x)] := hl
  generalize hQQ : MQ below _ args s 0 0 A = QQ
  refine lv_dload_n hx hb dX5_bitsOfDouble_0 rfl (lv_at hl 0 rfl) ?_
  refine lv_dstore_n (lv' := [(2, .double x), (0, .double x)]) hx hb dX5_bitsOfDouble_1 rfl hl (by decide) rfl (fun ls hl => ?_)
  refine lv_ldc2 hx hb hown (hw _ aw_737) dX5_bitsOfDouble_2 ?_
  refine lv_lstore (lv' := [(4, .long (1023 : Int64)), (2, .double x), (0, .double x)]) hx hb dX5_bitsOfDouble_5 hl (by decide) rfl (fun ls hl => ?_)
  refine lv_iconst (v := 0) hx hb dX5_bitsOfDouble_7 (by decide) ?_
  refine lv_istore (lv' := [(6, .int (0 : Int32)), (4, .long (1023 : Int64)), (2, .double x), (0, .double x)]) hx hb dX5_bitsOfDouble_8 hl (by decide) rfl (fun ls hl => ?_)
  refine lv_iload hx hb dX5_bitsOfDouble_10 (lv_at hl 0 rfl) ?_
  refine lv_sipush (v := 1023) hx hb dX5_bitsOfDouble_12 (by decide) ?_
  refine nv_ge hx hb 0 1023 42 (by omega) (by omega) dX5_bitsOfDouble_15 (by decide) (fun c => absurd c (by decide)) (fun c_1 => ?_)
  refine lv_dload_n hx hb dX5_bitsOfDouble_18 rfl (lv_at hl 2 rfl) ?_
  refine lv_dconst1 hx hb dX5_bitsOfDouble_19 ?_
  refine lv_dcmp hx hb dX5_bitsOfDouble_20 ?_
  refine lv_if_ge (tgt := 42) hx hb dX5_bitsOfDouble_21 (by decide) (fun c => absurd c hk21_0) (fun c_2 => ?_)
  refine lv_dload_n hx hb dX5_bitsOfDouble_24 rfl (lv_at hl 2 rfl) ?_
  refine lv_ldc2d hx hb hown (hw _ aw_738) dX5_bitsOfDouble_25 ?_
  refine lv_dmul hx hb dX5_bitsOfDouble_28 hn28_0 ?_
  refine lv_dstore_n (lv' := [(2, .double (FP.dmul x (4611686018427387904 : UInt64))), (6, .int (0 : Int32)), (4, .long (1023 : Int64)), (0, .double x)]) hx hb dX5_bitsOfDouble_29 rfl hl (by decide) rfl (fun ls hl => ?_)
  refine lv_lload hx hb dX5_bitsOfDouble_30 (lv_at hl 2 rfl) ?_
  refine lv_lconst (v := 1) hx hb dX5_bitsOfDouble_32 (by decide) ?_
  refine lv_lsub hx hb dX5_bitsOfDouble_33 ?_
  refine lv_lstore (lv' := [(4, .long ((1023 : Int64) - (1 : Int64))), (2, .double (FP.dmul x (4611686018427387904 : UInt64))), (6, .int (0 : Int32)), (0, .double x)]) hx hb dX5_bitsOfDouble_34 hl (by decide) rfl (fun ls hl => ?_)
  refine lv_iinc (v := 1) (k := 2) (lv' := [(6, .int (1 : Int32)), (4, .long ((1023 : Int64) - (1 : Int64))), (2, .double (FP.dmul x (4611686018427387904 : UInt64))), (0, .double x)]) hx hb dX5_bitsOfDouble_36 hl rfl rfl (by decide) rfl (fun ls hl => ?_)
  refine lv_goto (tgt := 10) hx hb dX5_bitsOfDouble_39 (by decide) ?_
  refine lv_iload hx hb dX5_bitsOfDouble_10 (lv_at hl 0 rfl) ?_
  refine lv_sipush (v := 1023) hx hb dX5_bitsOfDouble_12 (by decide) ?_
  refine nv_ge hx hb 1 1023 42 (by omega) (by omega) dX5_bitsOfDouble_15 (by decide) (fun c => absurd c (by decide)) (fun c_3 => ?_)
  refine lv_dload_n hx hb dX5_bitsOfDouble_18 rfl (lv_at hl 2 rfl) ?_
  refine lv_dconst1 hx hb dX5_bitsOfDouble_19 ?_
  refine lv_dcmp hx hb dX5_bitsOfDouble_20 ?_
  refine lv_if_ge (tgt := 42) hx hb dX5_bitsOfDouble_21 (by decide) (fun c => absurd c hk21_1) (fun c_4 => ?_)
  refine lv_dload_n hx hb dX5_bitsOfDouble_24 rfl (lv_at hl 2 rfl) ?_
  refine lv_ldc2d hx hb hown (hw _ aw_738) dX5_bitsOfDouble_25 ?_
  refine lv_dmul hx hb dX5_bitsOfDouble_28 hn28_1 ?_
  refine lv_dstore_n (lv' := [(2, .double (FP.dmul (FP.dmul x (4611686018427387904 : UInt64)) (4611686018427387904 : UInt64))), (6, .int (1 : Int32)), (4, .long ((1023 : Int64) - (1 : Int64))), (0, .double x)]) hx hb dX5_bitsOfDouble_29 rfl hl (by decide) rfl (fun ls hl => ?_)
  refine lv_lload hx hb dX5_bitsOfDouble_30 (lv_at hl 2 rfl) ?_
  refine lv_lconst (v := 1) hx hb dX5_bitsOfDouble_32 (by decide) ?_
  refine lv_lsub hx hb dX5_bitsOfDouble_33 ?_
  refine lv_lstore (lv' := [(4, .long (((1023 : Int64) - (1 : Int64)) - (1 : Int64))), (2, .double (FP.dmul (FP.dmul x (4611686018427387904 : UInt64)) (4611686018427387904 : UInt64))), (6, .int (1 : Int32)), (0, .double x)]) hx hb dX5_bitsOfDouble_34 hl (by decide) rfl (fun ls hl => ?_)
  refine lv_iinc (v := 2) (k := 2) (lv' := [(6, .int (2 : Int32)), (4, .long (((1023 : Int64) - (1 : Int64)) - (1 : Int64))), (2, .double (FP.dmul (FP.dmul x (4611686018427387904 : UInt64)) (4611686018427387904 : UInt64))), (0, .double x)]) hx hb dX5_bitsOfDouble_36 hl rfl rfl (by decide) rfl (fun ls hl => ?_)
  refine lv_goto (tgt := 10) hx hb dX5_bitsOfDouble_39 (by decide) ?_
  refine lv_iload hx hb dX5_bitsOfDouble_10 (lv_at hl 0 rfl) ?_
  refine lv_sipush (v := 1023) hx hb dX5_bitsOfDouble_12 (by decide) ?_
  refine nv_ge hx hb 2 1023 42 (by omega) (by omega) dX5_bitsOfDouble_15 (by decide) (fun c => absurd c (by decide)) (fun c_5 => ?_)
  refine lv_dload_n hx hb dX5_bitsOfDouble_18 rfl (lv_at hl 2 rfl) ?_
  refine lv_dconst1 hx hb dX5_bitsOfDouble_19 ?_
  refine lv_dcmp hx hb dX5_bitsOfDouble_20 ?_
  refine lv_if_ge (tgt := 42) hx hb dX5_bitsOfDouble_21 (by decide) (fun c_6 => ?_) (fun c => absurd hk21_2 c)
  refine lv_dload_n hx hb dX5_bitsOfDouble_42 rfl (lv_at hl 2 rfl) ?_
  refine lv_dconst1 hx hb dX5_bitsOfDouble_43 ?_
  refine lv_dsub hx hb dX5_bitsOfDouble_44 hn44_0 ?_
  refine lv_ldc2d hx hb hown (hw _ aw_739) dX5_bitsOfDouble_45 ?_
  refine lv_dmul hx hb dX5_bitsOfDouble_48 hn48_0 ?_
  refine lv_d2l hx hb dX5_bitsOfDouble_49 ?_
  refine lv_lstore (lv' := [(6, .long (FP.d2l (FP.dmul (FP.dsub (FP.dmul (FP.dmul x (4611686018427387904 : UInt64)) (4611686018427387904 : UInt64)) FP.dconst1) (4841369599423283200 : UInt64)))), (4, .long (((1023 : Int64) - (1 : Int64)) - (1 : Int64))), (2, .double (FP.dmul (FP.dmul x (4611686018427387904 : UInt64)) (4611686018427387904 : UInt64))), (0, .double x)]) hx hb dX5_bitsOfDouble_50 hl (by decide) rfl (fun ls hl => ?_)
  refine lv_lload hx hb dX5_bitsOfDouble_52 (lv_at hl 1 rfl) ?_
  refine lv_bipush (v := 52) hx hb dX5_bitsOfDouble_54 (by decide) ?_
  refine lv_lshl hx hb dX5_bitsOfDouble_56 rfl ?_
  refine lv_lload hx hb dX5_bitsOfDouble_57 (lv_at hl 0 rfl) ?_
  refine lv_ladd hx hb dX5_bitsOfDouble_59 ?_
  rw [← hQQ]; exact W.lret hx hb hr (ct_end (F := (f_X5_bitsOfDouble_m2 x)) (u := (((((1023 : Int64) - (1 : Int64)) - (1 : Int64)) <<< ((52 : Int32).toInt64 &&& 63)) + (FP.d2l (FP.dmul (FP.dsub (FP.dmul (FP.dmul x (4611686018427387904 : UInt64)) (4611686018427387904 : UInt64)) FP.dconst1) (4841369599423283200 : UInt64))))) (rf := (fun u => some (.long u))) (wf := (fun _ => [].flatten)) rfl rfl hP hD hS) hS.2.2 dX5_bitsOfDouble_60
def f_X5_bitsOfDouble_m1 (x : UInt64) : Int64 := ((((1023 : Int64) - (1 : Int64)) <<< ((52 : Int32).toInt64 &&& 63)) + (FP.d2l (FP.dmul (FP.dsub (FP.dmul x (4611686018427387904 : UInt64)) FP.dconst1) (4841369599423283200 : UInt64))))
set_option maxRecDepth 100000 in
set_option maxHeartbeats 4000000 in
theorem k_X5_bitsOfDouble_m1 (l : Launch) (G : va_G) (cI cS cL : ClassId) (x : UInt64) (hk21_0 : ¬ (0 ≤ (Op.cmpValue (FP.dcmp x FP.dconst1) .g))) (hn28_0 : vf_n64 (FP.dmul x (4611686018427387904 : UInt64))) (hk21_1 : 0 ≤ (Op.cmpValue (FP.dcmp (FP.dmul x (4611686018427387904 : UInt64)) FP.dconst1) .g)) (hn44_0 : vf_n64 (FP.dsub (FP.dmul x (4611686018427387904 : UInt64)) FP.dconst1)) (hn48_0 : vf_n64 (FP.dmul (FP.dsub (FP.dmul x (4611686018427387904 : UInt64)) FP.dconst1) (4841369599423283200 : UInt64))) : Ct l G (tyl cI cS cL) yX5_bitsOfDouble cX5_bitsOfDouble 8 (some (Jvm.ClassFile.FieldType.long)) 0 0 0 0 [.double x] [].flatten (f_X5_bitsOfDouble_m1 x) (fun u => some (.long u)) (fun _ => [].flatten) := by
  refine Ct.of (by decide +kernel) (Nat.le_of_ble_eq_true rfl) ?_
  intro p e s m args below meth c A ls hx hb hr hml hw hown hlocks hin hK hN hP hD hS hA hl
  have hown : s.vm.findClass RX5 = some m.cls := hown
  have X : Cx p s m args c cX5_bitsOfDouble 8 RX5 G (tyl cI cS cL) := ⟨hx, hb, hml, hown, hw, hK, hN⟩
  have hP : va_P G classes [].flatten s.heap := hP
  have hl : lv_has ls 8 [(0, .double x)] := hl
  generalize hQQ : MQ below _ args s 0 0 A = QQ
  refine lv_dload_n hx hb dX5_bitsOfDouble_0 rfl (lv_at hl 0 rfl) ?_
  refine lv_dstore_n (lv' := [(2, .double x), (0, .double x)]) hx hb dX5_bitsOfDouble_1 rfl hl (by decide) rfl (fun ls hl => ?_)
  refine lv_ldc2 hx hb hown (hw _ aw_737) dX5_bitsOfDouble_2 ?_
  refine lv_lstore (lv' := [(4, .long (1023 : Int64)), (2, .double x), (0, .double x)]) hx hb dX5_bitsOfDouble_5 hl (by decide) rfl (fun ls hl => ?_)
  refine lv_iconst (v := 0) hx hb dX5_bitsOfDouble_7 (by decide) ?_
  refine lv_istore (lv' := [(6, .int (0 : Int32)), (4, .long (1023 : Int64)), (2, .double x), (0, .double x)]) hx hb dX5_bitsOfDouble_8 hl (by decide) rfl (fun ls hl => ?_)
  refine lv_iload hx hb dX5_bitsOfDouble_10 (lv_at hl 0 rfl) ?_
  refine lv_sipush (v := 1023) hx hb dX5_bitsOfDouble_12 (by decide) ?_
  refine nv_ge hx hb 0 1023 42 (by omega) (by omega) dX5_bitsOfDouble_15 (by decide) (fun c => absurd c (by decide)) (fun c_1 => ?_)
  refine lv_dload_n hx hb dX5_bitsOfDouble_18 rfl (lv_at hl 2 rfl) ?_
  refine lv_dconst1 hx hb dX5_bitsOfDouble_19 ?_
  refine lv_dcmp hx hb dX5_bitsOfDouble_20 ?_
  refine lv_if_ge (tgt := 42) hx hb dX5_bitsOfDouble_21 (by decide) (fun c => absurd c hk21_0) (fun c_2 => ?_)
  refine lv_dload_n hx hb dX5_bitsOfDouble_24 rfl (lv_at hl 2 rfl) ?_
  refine lv_ldc2d hx hb hown (hw _ aw_738) dX5_bitsOfDouble_25 ?_
  refine lv_dmul hx hb dX5_bitsOfDouble_28 hn28_0 ?_
  refine lv_dstore_n (lv' := [(2, .double (FP.dmul x (4611686018427387904 : UInt64))), (6, .int (0 : Int32)), (4, .long (1023 : Int64)), (0, .double x)]) hx hb dX5_bitsOfDouble_29 rfl hl (by decide) rfl (fun ls hl => ?_)
  refine lv_lload hx hb dX5_bitsOfDouble_30 (lv_at hl 2 rfl) ?_
  refine lv_lconst (v := 1) hx hb dX5_bitsOfDouble_32 (by decide) ?_
  refine lv_lsub hx hb dX5_bitsOfDouble_33 ?_
  refine lv_lstore (lv' := [(4, .long ((1023 : Int64) - (1 : Int64))), (2, .double (FP.dmul x (4611686018427387904 : UInt64))), (6, .int (0 : Int32)), (0, .double x)]) hx hb dX5_bitsOfDouble_34 hl (by decide) rfl (fun ls hl => ?_)
  refine lv_iinc (v := 1) (k := 2) (lv' := [(6, .int (1 : Int32)), (4, .long ((1023 : Int64) - (1 : Int64))), (2, .double (FP.dmul x (4611686018427387904 : UInt64))), (0, .double x)]) hx hb dX5_bitsOfDouble_36 hl rfl rfl (by decide) rfl (fun ls hl => ?_)
  refine lv_goto (tgt := 10) hx hb dX5_bitsOfDouble_39 (by decide) ?_
  refine lv_iload hx hb dX5_bitsOfDouble_10 (lv_at hl 0 rfl) ?_
  refine lv_sipush (v := 1023) hx hb dX5_bitsOfDouble_12 (by decide) ?_
  refine nv_ge hx hb 1 1023 42 (by omega) (by omega) dX5_bitsOfDouble_15 (by decide) (fun c => absurd c (by decide)) (fun c_3 => ?_)
  refine lv_dload_n hx hb dX5_bitsOfDouble_18 rfl (lv_at hl 2 rfl) ?_
  refine lv_dconst1 hx hb dX5_bitsOfDouble_19 ?_
  refine lv_dcmp hx hb dX5_bitsOfDouble_20 ?_
  refine lv_if_ge (tgt := 42) hx hb dX5_bitsOfDouble_21 (by decide) (fun c_4 => ?_) (fun c => absurd hk21_1 c)
  refine lv_dload_n hx hb dX5_bitsOfDouble_42 rfl (lv_at hl 2 rfl) ?_
  refine lv_dconst1 hx hb dX5_bitsOfDouble_43 ?_
  refine lv_dsub hx hb dX5_bitsOfDouble_44 hn44_0 ?_
  refine lv_ldc2d hx hb hown (hw _ aw_739) dX5_bitsOfDouble_45 ?_
  refine lv_dmul hx hb dX5_bitsOfDouble_48 hn48_0 ?_
  refine lv_d2l hx hb dX5_bitsOfDouble_49 ?_
  refine lv_lstore (lv' := [(6, .long (FP.d2l (FP.dmul (FP.dsub (FP.dmul x (4611686018427387904 : UInt64)) FP.dconst1) (4841369599423283200 : UInt64)))), (4, .long ((1023 : Int64) - (1 : Int64))), (2, .double (FP.dmul x (4611686018427387904 : UInt64))), (0, .double x)]) hx hb dX5_bitsOfDouble_50 hl (by decide) rfl (fun ls hl => ?_)
  refine lv_lload hx hb dX5_bitsOfDouble_52 (lv_at hl 1 rfl) ?_
  refine lv_bipush (v := 52) hx hb dX5_bitsOfDouble_54 (by decide) ?_
  refine lv_lshl hx hb dX5_bitsOfDouble_56 rfl ?_
  refine lv_lload hx hb dX5_bitsOfDouble_57 (lv_at hl 0 rfl) ?_
  refine lv_ladd hx hb dX5_bitsOfDouble_59 ?_
  rw [← hQQ]; exact W.lret hx hb hr (ct_end (F := (f_X5_bitsOfDouble_m1 x)) (u := ((((1023 : Int64) - (1 : Int64)) <<< ((52 : Int32).toInt64 &&& 63)) + (FP.d2l (FP.dmul (FP.dsub (FP.dmul x (4611686018427387904 : UInt64)) FP.dconst1) (4841369599423283200 : UInt64))))) (rf := (fun u => some (.long u))) (wf := (fun _ => [].flatten)) rfl rfl hP hD hS) hS.2.2 dX5_bitsOfDouble_60
def f_X5_bitsOfDouble_0 (x : UInt64) : Int64 := (((1023 : Int64) <<< ((52 : Int32).toInt64 &&& 63)) + (FP.d2l (FP.dmul (FP.dsub x FP.dconst1) (4841369599423283200 : UInt64))))
set_option maxRecDepth 100000 in
set_option maxHeartbeats 4000000 in
theorem k_X5_bitsOfDouble_0 (l : Launch) (G : va_G) (cI cS cL : ClassId) (x : UInt64) (hk21_0 : 0 ≤ (Op.cmpValue (FP.dcmp x FP.dconst1) .g)) (hn44_0 : vf_n64 (FP.dsub x FP.dconst1)) (hn48_0 : vf_n64 (FP.dmul (FP.dsub x FP.dconst1) (4841369599423283200 : UInt64))) : Ct l G (tyl cI cS cL) yX5_bitsOfDouble cX5_bitsOfDouble 8 (some (Jvm.ClassFile.FieldType.long)) 0 0 0 0 [.double x] [].flatten (f_X5_bitsOfDouble_0 x) (fun u => some (.long u)) (fun _ => [].flatten) := by
  refine Ct.of (by decide +kernel) (Nat.le_of_ble_eq_true rfl) ?_
  intro p e s m args below meth c A ls hx hb hr hml hw hown hlocks hin hK hN hP hD hS hA hl
  have hown : s.vm.findClass RX5 = some m.cls := hown
  have X : Cx p s m args c cX5_bitsOfDouble 8 RX5 G (tyl cI cS cL) := ⟨hx, hb, hml, hown, hw, hK, hN⟩
  have hP : va_P G classes [].flatten s.heap := hP
  have hl : lv_has ls 8 [(0, .double x)] := hl
  generalize hQQ : MQ below _ args s 0 0 A = QQ
  refine lv_dload_n hx hb dX5_bitsOfDouble_0 rfl (lv_at hl 0 rfl) ?_
  refine lv_dstore_n (lv' := [(2, .double x), (0, .double x)]) hx hb dX5_bitsOfDouble_1 rfl hl (by decide) rfl (fun ls hl => ?_)
  refine lv_ldc2 hx hb hown (hw _ aw_737) dX5_bitsOfDouble_2 ?_
  refine lv_lstore (lv' := [(4, .long (1023 : Int64)), (2, .double x), (0, .double x)]) hx hb dX5_bitsOfDouble_5 hl (by decide) rfl (fun ls hl => ?_)
  refine lv_iconst (v := 0) hx hb dX5_bitsOfDouble_7 (by decide) ?_
  refine lv_istore (lv' := [(6, .int (0 : Int32)), (4, .long (1023 : Int64)), (2, .double x), (0, .double x)]) hx hb dX5_bitsOfDouble_8 hl (by decide) rfl (fun ls hl => ?_)
  refine lv_iload hx hb dX5_bitsOfDouble_10 (lv_at hl 0 rfl) ?_
  refine lv_sipush (v := 1023) hx hb dX5_bitsOfDouble_12 (by decide) ?_
  refine nv_ge hx hb 0 1023 42 (by omega) (by omega) dX5_bitsOfDouble_15 (by decide) (fun c => absurd c (by decide)) (fun c_1 => ?_)
  refine lv_dload_n hx hb dX5_bitsOfDouble_18 rfl (lv_at hl 2 rfl) ?_
  refine lv_dconst1 hx hb dX5_bitsOfDouble_19 ?_
  refine lv_dcmp hx hb dX5_bitsOfDouble_20 ?_
  refine lv_if_ge (tgt := 42) hx hb dX5_bitsOfDouble_21 (by decide) (fun c_2 => ?_) (fun c => absurd hk21_0 c)
  refine lv_dload_n hx hb dX5_bitsOfDouble_42 rfl (lv_at hl 2 rfl) ?_
  refine lv_dconst1 hx hb dX5_bitsOfDouble_43 ?_
  refine lv_dsub hx hb dX5_bitsOfDouble_44 hn44_0 ?_
  refine lv_ldc2d hx hb hown (hw _ aw_739) dX5_bitsOfDouble_45 ?_
  refine lv_dmul hx hb dX5_bitsOfDouble_48 hn48_0 ?_
  refine lv_d2l hx hb dX5_bitsOfDouble_49 ?_
  refine lv_lstore (lv' := [(6, .long (FP.d2l (FP.dmul (FP.dsub x FP.dconst1) (4841369599423283200 : UInt64)))), (4, .long (1023 : Int64)), (2, .double x), (0, .double x)]) hx hb dX5_bitsOfDouble_50 hl (by decide) rfl (fun ls hl => ?_)
  refine lv_lload hx hb dX5_bitsOfDouble_52 (lv_at hl 1 rfl) ?_
  refine lv_bipush (v := 52) hx hb dX5_bitsOfDouble_54 (by decide) ?_
  refine lv_lshl hx hb dX5_bitsOfDouble_56 rfl ?_
  refine lv_lload hx hb dX5_bitsOfDouble_57 (lv_at hl 0 rfl) ?_
  refine lv_ladd hx hb dX5_bitsOfDouble_59 ?_
  rw [← hQQ]; exact W.lret hx hb hr (ct_end (F := (f_X5_bitsOfDouble_0 x)) (u := (((1023 : Int64) <<< ((52 : Int32).toInt64 &&& 63)) + (FP.d2l (FP.dmul (FP.dsub x FP.dconst1) (4841369599423283200 : UInt64))))) (rf := (fun u => some (.long u))) (wf := (fun _ => [].flatten)) rfl rfl hP hD hS) hS.2.2 dX5_bitsOfDouble_60
def f_X5_bitsOfFloat_m2 (x : UInt32) : Int32 := (((125 : Int32) <<< ((23 : Int32) &&& 31)) + (FP.f2i (FP.fmul (FP.fsub (FP.fmul (FP.fmul x FP.fconst2) FP.fconst2) FP.fconst1) (1258291200 : UInt32))))
set_option maxRecDepth 100000 in
set_option maxHeartbeats 4000000 in
theorem k_X5_bitsOfFloat_m2 (l : Launch) (G : va_G) (cI cS cL : ClassId) (x : UInt32) (hk3_0 : 0 < (Op.cmpValue (FP.fcmp x FP.fconst0) .l)) (hk24_0 : (Op.cmpValue (FP.fcmp x FP.fconst2) .l) < 0) (hk51_0 : ¬ (0 ≤ (Op.cmpValue (FP.fcmp x FP.fconst1) .g))) (hn56_0 : vf_n32 (FP.fmul x FP.fconst2)) (hk51_1 : ¬ (0 ≤ (Op.cmpValue (FP.fcmp (FP.fmul x FP.fconst2) FP.fconst1) .g))) (hn56_1 : vf_n32 (FP.fmul (FP.fmul x FP.fconst2) FP.fconst2)) (hk51_2 : 0 ≤ (Op.cmpValue (FP.fcmp (FP.fmul (FP.fmul x FP.fconst2) FP.fconst2) FP.fconst1) .g)) (hn69_0 : vf_n32 (FP.fsub (FP.fmul (FP.fmul x FP.fconst2) FP.fconst2) FP.fconst1)) (hn73_0 : vf_n32 (FP.fmul (FP.fsub (FP.fmul (FP.fmul x FP.fconst2) FP.fconst2) FP.fconst1) (1258291200 : UInt32))) : Ct l G (tyl cI cS cL) yX5_bitsOfFloat cX5_bitsOfFloat 4 (some (Jvm.ClassFile.FieldType.int)) 0 0 0 0 [.float x] [].flatten (f_X5_bitsOfFloat_m2 x) (fun u => some (.int u)) (fun _ => [].flatten) := by
  refine Ct.of (by decide +kernel) (Nat.le_of_ble_eq_true rfl) ?_
  intro p e s m args below meth c A ls hx hb hr hml hw hown hlocks hin hK hN hP hD hS hA hl
  have hown : s.vm.findClass RX5 = some m.cls := hown
  have X : Cx p s m args c cX5_bitsOfFloat 4 RX5 G (tyl cI cS cL) := ⟨hx, hb, hml, hown, hw, hK, hN⟩
  have hP : va_P G classes [].flatten s.heap := hP
  have hl : lv_has ls 4 [(0, .float x)] := hl
  generalize hQQ : MQ below _ args s 0 0 A = QQ
  refine lv_fload_n hx hb dX5_bitsOfFloat_0 rfl (lv_at hl 0 rfl) ?_
  refine lv_fconst0 hx hb dX5_bitsOfFloat_1 ?_
  refine lv_fcmp hx hb dX5_bitsOfFloat_2 ?_
  refine lv_if_gt (tgt := 8) hx hb dX5_bitsOfFloat_3 (by decide) (fun c_1 => ?_) (fun c => absurd hk3_0 c)
  refine lv_fload_n hx hb dX5_bitsOfFloat_8 rfl (lv_at hl 0 rfl) ?_
  refine lv_fstore_n (lv' := [(1, .float x), (0, .float x)]) hx hb dX5_bitsOfFloat_9 rfl hl (by decide) rfl (fun ls hl => ?_)
  refine lv_bipush (v := 127) hx hb dX5_bitsOfFloat_10 (by decide) ?_
  refine lv_istore_n (lv' := [(2, .int (127 : Int32)), (1, .float x), (0, .float x)]) hx hb dX5_bitsOfFloat_12 rfl hl (by decide) rfl (fun ls hl => ?_)
  refine lv_iconst (v := 0) hx hb dX5_bitsOfFloat_13 (by decide) ?_
  refine lv_istore_n (lv' := [(3, .int (0 : Int32)), (2, .int (127 : Int32)), (1, .float x), (0, .float x)]) hx hb dX5_bitsOfFloat_14 rfl hl (by decide) rfl (fun ls hl => ?_)
  refine lv_iload_n hx hb dX5_bitsOfFloat_15 rfl (lv_at hl 0 rfl) ?_
  refine lv_bipush (v := 127) hx hb dX5_bitsOfFloat_16 (by decide) ?_
  refine nv_ge hx hb 0 127 40 (by omega) (by omega) dX5_bitsOfFloat_18 (by decide) (fun c => absurd c (by decide)) (fun c_2 => ?_)
  refine lv_fload_n hx hb dX5_bitsOfFloat_21 rfl (lv_at hl 2 rfl) ?_
  refine lv_fconst2 hx hb dX5_bitsOfFloat_22 ?_
  refine lv_fcmp hx hb dX5_bitsOfFloat_23 ?_
  refine lv_if_lt (tgt := 40) hx hb dX5_bitsOfFloat_24 (by decide) (fun c_3 => ?_) (fun c => absurd hk24_0 c)
  refine lv_iconst (v := 0) hx hb dX5_bitsOfFloat_40 (by decide) ?_
  refine lv_istore_n (lv' := [(3, .int (0 : Int32)), (2, .int (127 : Int32)), (1, .float x), (0, .float x)]) hx hb dX5_bitsOfFloat_41 rfl hl (by decide) rfl (fun ls hl => ?_)
  refine lv_iload_n hx hb dX5_bitsOfFloat_42 rfl (lv_at hl 0 rfl) ?_
  refine lv_bipush (v := 127) hx hb dX5_bitsOfFloat_43 (by decide) ?_
  refine nv_ge hx hb 0 127 67 (by omega) (by omega) dX5_bitsOfFloat_45 (by decide) (fun c => absurd c (by decide)) (fun c_4 => ?_)
  refine lv_fload_n hx hb dX5_bitsOfFloat_48 rfl (lv_at hl 2 rfl) ?_
  refine lv_fconst1 hx hb dX5_bitsOfFloat_49 ?_
  refine lv_fcmp hx hb dX5_bitsOfFloat_50 ?_
  refine lv_if_ge (tgt := 67) hx hb dX5_bitsOfFloat_51 (by decide) (fun c => absurd c hk51_0) (fun c_5 => ?_)
  refine lv_fload_n hx hb dX5_bitsOfFloat_54 rfl (lv_at hl 2 rfl) ?_
  refine lv_fconst2 hx hb dX5_bitsOfFloat_55 ?_
  refine lv_fmul hx hb dX5_bitsOfFloat_56 hn56_0 ?_
  refine lv_fstore_n (lv' := [(1, .float (FP.fmul x FP.fconst2)), (3, .int (0 : Int32)), (2, .int (127 : Int32)), (0, .float x)]) hx hb dX5_bitsOfFloat_57 rfl hl (by decide) rfl (fun ls hl => ?_)
  refine lv_iinc (v := 126) (k := 2) (lv' := [(2, .int (126 : Int32)), (1, .float (FP.fmul x FP.fconst2)), (3, .int (0 : Int32)), (0, .float x)]) hx hb dX5_bitsOfFloat_58 hl rfl rfl (by decide) rfl (fun ls hl => ?_)
  refine lv_iinc (v := 1) (k := 2) (lv' := [(3, .int (1 : Int32)), (2, .int (126 : Int32)), (1, .float (FP.fmul x FP.fconst2)), (0, .float x)]) hx hb dX5_bitsOfFloat_61 hl rfl rfl (by decide) rfl (fun ls hl => ?_)
  refine lv_goto (tgt := 42) hx hb dX5_bitsOfFloat_64 (by decide) ?_
  refine lv_iload_n hx hb dX5_bitsOfFloat_42 rfl (lv_at hl 0 rfl) ?_
  refine lv_bipush (v := 127) hx hb dX5_bitsOfFloat_43 (by decide) ?_
  refine nv_ge hx hb 1 127 67 (by omega) (by omega) dX5_bitsOfFloat_45 (by decide) (fun c => absurd c (by decide)) (fun c_6 => ?_)
  refine lv_fload_n hx hb dX5_bitsOfFloat_48 rfl (lv_at hl 2 rfl) ?_
  refine lv_fconst1 hx hb dX5_bitsOfFloat_49 ?_
  refine lv_fcmp hx hb dX5_bitsOfFloat_50 ?_
  refine lv_if_ge (tgt := 67) hx hb dX5_bitsOfFloat_51 (by decide) (fun c => absurd c hk51_1) (fun c_7 => ?_)
  refine lv_fload_n hx hb dX5_bitsOfFloat_54 rfl (lv_at hl 2 rfl) ?_
  refine lv_fconst2 hx hb dX5_bitsOfFloat_55 ?_
  refine lv_fmul hx hb dX5_bitsOfFloat_56 hn56_1 ?_
  refine lv_fstore_n (lv' := [(1, .float (FP.fmul (FP.fmul x FP.fconst2) FP.fconst2)), (3, .int (1 : Int32)), (2, .int (126 : Int32)), (0, .float x)]) hx hb dX5_bitsOfFloat_57 rfl hl (by decide) rfl (fun ls hl => ?_)
  refine lv_iinc (v := 125) (k := 2) (lv' := [(2, .int (125 : Int32)), (1, .float (FP.fmul (FP.fmul x FP.fconst2) FP.fconst2)), (3, .int (1 : Int32)), (0, .float x)]) hx hb dX5_bitsOfFloat_58 hl rfl rfl (by decide) rfl (fun ls hl => ?_)
  refine lv_iinc (v := 2) (k := 2) (lv' := [(3, .int (2 : Int32)), (2, .int (125 : Int32)), (1, .float (FP.fmul (FP.fmul x FP.fconst2) FP.fconst2)), (0, .float x)]) hx hb dX5_bitsOfFloat_61 hl rfl rfl (by decide) rfl (fun ls hl => ?_)
  refine lv_goto (tgt := 42) hx hb dX5_bitsOfFloat_64 (by decide) ?_
  refine lv_iload_n hx hb dX5_bitsOfFloat_42 rfl (lv_at hl 0 rfl) ?_
  refine lv_bipush (v := 127) hx hb dX5_bitsOfFloat_43 (by decide) ?_
  refine nv_ge hx hb 2 127 67 (by omega) (by omega) dX5_bitsOfFloat_45 (by decide) (fun c => absurd c (by decide)) (fun c_8 => ?_)
  refine lv_fload_n hx hb dX5_bitsOfFloat_48 rfl (lv_at hl 2 rfl) ?_
  refine lv_fconst1 hx hb dX5_bitsOfFloat_49 ?_
  refine lv_fcmp hx hb dX5_bitsOfFloat_50 ?_
  refine lv_if_ge (tgt := 67) hx hb dX5_bitsOfFloat_51 (by decide) (fun c_9 => ?_) (fun c => absurd hk51_2 c)
  refine lv_fload_n hx hb dX5_bitsOfFloat_67 rfl (lv_at hl 2 rfl) ?_
  refine lv_fconst1 hx hb dX5_bitsOfFloat_68 ?_
  refine lv_fsub hx hb dX5_bitsOfFloat_69 hn69_0 ?_
  refine nv_ldcwf hx hb hown (hw _ aw_749) dX5_bitsOfFloat_70 ?_
  refine lv_fmul hx hb dX5_bitsOfFloat_73 hn73_0 ?_
  refine lv_f2i hx hb dX5_bitsOfFloat_74 ?_
  refine lv_istore_n (lv' := [(3, .int (FP.f2i (FP.fmul (FP.fsub (FP.fmul (FP.fmul x FP.fconst2) FP.fconst2) FP.fconst1) (1258291200 : UInt32)))), (2, .int (125 : Int32)), (1, .float (FP.fmul (FP.fmul x FP.fconst2) FP.fconst2)), (0, .float x)]) hx hb dX5_bitsOfFloat_75 rfl hl (by decide) rfl (fun ls hl => ?_)
  refine lv_iload_n hx hb dX5_bitsOfFloat_76 rfl (lv_at hl 1 rfl) ?_
  refine lv_bipush (v := 23) hx hb dX5_bitsOfFloat_77 (by decide) ?_
  refine lv_ishl hx hb dX5_bitsOfFloat_79 ?_
  refine lv_iload_n hx hb dX5_bitsOfFloat_80 rfl (lv_at hl 0 rfl) ?_
  refine lv_iadd hx hb dX5_bitsOfFloat_81 ?_
  rw [← hQQ]; exact W.iret hx hb hr (ct_end (F := (f_X5_bitsOfFloat_m2 x)) (u := (((125 : Int32) <<< ((23 : Int32) &&& 31)) + (FP.f2i (FP.fmul (FP.fsub (FP.fmul (FP.fmul x FP.fconst2) FP.fconst2) FP.fconst1) (1258291200 : UInt32))))) (rf := (fun u => some (.int u))) (wf := (fun _ => [].flatten)) rfl rfl hP hD hS) hS.2.2 dX5_bitsOfFloat_82
def f_X5_bitsOfFloat_m1 (x : UInt32) : Int32 := (((126 : Int32) <<< ((23 : Int32) &&& 31)) + (FP.f2i (FP.fmul (FP.fsub (FP.fmul x FP.fconst2) FP.fconst1) (1258291200 : UInt32))))
set_option maxRecDepth 100000 in
set_option maxHeartbeats 4000000 in
theorem k_X5_bitsOfFloat_m1 (l : Launch) (G : va_G) (cI cS cL : ClassId) (x : UInt32) (hk3_0 : 0 < (Op.cmpValue (FP.fcmp x FP.fconst0) .l)) (hk24_0 : (Op.cmpValue (FP.fcmp x FP.fconst2) .l) < 0) (hk51_0 : ¬ (0 ≤ (Op.cmpValue (FP.fcmp x FP.fconst1) .g))) (hn56_0 : vf_n32 (FP.fmul x FP.fconst2)) (hk51_1 : 0 ≤ (Op.cmpValue (FP.fcmp (FP.fmul x FP.fconst2) FP.fconst1) .g)) (hn69_0 : vf_n32 (FP.fsub (FP.fmul x FP.fconst2) FP.fconst1)) (hn73_0 : vf_n32 (FP.fmul (FP.fsub (FP.fmul x FP.fconst2) FP.fconst1) (1258291200 : UInt32))) : Ct l G (tyl cI cS cL) yX5_bitsOfFloat cX5_bitsOfFloat 4 (some (Jvm.ClassFile.FieldType.int)) 0 0 0 0 [.float x] [].flatten (f_X5_bitsOfFloat_m1 x) (fun u => some (.int u)) (fun _ => [].flatten) := by
  refine Ct.of (by decide +kernel) (Nat.le_of_ble_eq_true rfl) ?_
  intro p e s m args below meth c A ls hx hb hr hml hw hown hlocks hin hK hN hP hD hS hA hl
  have hown : s.vm.findClass RX5 = some m.cls := hown
  have X : Cx p s m args c cX5_bitsOfFloat 4 RX5 G (tyl cI cS cL) := ⟨hx, hb, hml, hown, hw, hK, hN⟩
  have hP : va_P G classes [].flatten s.heap := hP
  have hl : lv_has ls 4 [(0, .float x)] := hl
  generalize hQQ : MQ below _ args s 0 0 A = QQ
  refine lv_fload_n hx hb dX5_bitsOfFloat_0 rfl (lv_at hl 0 rfl) ?_
  refine lv_fconst0 hx hb dX5_bitsOfFloat_1 ?_
  refine lv_fcmp hx hb dX5_bitsOfFloat_2 ?_
  refine lv_if_gt (tgt := 8) hx hb dX5_bitsOfFloat_3 (by decide) (fun c_1 => ?_) (fun c => absurd hk3_0 c)
  refine lv_fload_n hx hb dX5_bitsOfFloat_8 rfl (lv_at hl 0 rfl) ?_
  refine lv_fstore_n (lv' := [(1, .float x), (0, .float x)]) hx hb dX5_bitsOfFloat_9 rfl hl (by decide) rfl (fun ls hl => ?_)
  refine lv_bipush (v := 127) hx hb dX5_bitsOfFloat_10 (by decide) ?_
  refine lv_istore_n (lv' := [(2, .int (127 : Int32)), (1, .float x), (0, .float x)]) hx hb dX5_bitsOfFloat_12 rfl hl (by decide) rfl (fun ls hl => ?_)
  refine lv_iconst (v := 0) hx hb dX5_bitsOfFloat_13 (by decide) ?_
  refine lv_istore_n (lv' := [(3, .int (0 : Int32)), (2, .int (127 : Int32)), (1, .float x), (0, .float x)]) hx hb dX5_bitsOfFloat_14 rfl hl (by decide) rfl (fun ls hl => ?_)
  refine lv_iload_n hx hb dX5_bitsOfFloat_15 rfl (lv_at hl 0 rfl) ?_
  refine lv_bipush (v := 127) hx hb dX5_bitsOfFloat_16 (by decide) ?_
  refine nv_ge hx hb 0 127 40 (by omega) (by omega) dX5_bitsOfFloat_18 (by decide) (fun c => absurd c (by decide)) (fun c_2 => ?_)
  refine lv_fload_n hx hb dX5_bitsOfFloat_21 rfl (lv_at hl 2 rfl) ?_
  refine lv_fconst2 hx hb dX5_bitsOfFloat_22 ?_
  refine lv_fcmp hx hb dX5_bitsOfFloat_23 ?_
  refine lv_if_lt (tgt := 40) hx hb dX5_bitsOfFloat_24 (by decide) (fun c_3 => ?_) (fun c => absurd hk24_0 c)
  refine lv_iconst (v := 0) hx hb dX5_bitsOfFloat_40 (by decide) ?_
  refine lv_istore_n (lv' := [(3, .int (0 : Int32)), (2, .int (127 : Int32)), (1, .float x), (0, .float x)]) hx hb dX5_bitsOfFloat_41 rfl hl (by decide) rfl (fun ls hl => ?_)
  refine lv_iload_n hx hb dX5_bitsOfFloat_42 rfl (lv_at hl 0 rfl) ?_
  refine lv_bipush (v := 127) hx hb dX5_bitsOfFloat_43 (by decide) ?_
  refine nv_ge hx hb 0 127 67 (by omega) (by omega) dX5_bitsOfFloat_45 (by decide) (fun c => absurd c (by decide)) (fun c_4 => ?_)
  refine lv_fload_n hx hb dX5_bitsOfFloat_48 rfl (lv_at hl 2 rfl) ?_
  refine lv_fconst1 hx hb dX5_bitsOfFloat_49 ?_
  refine lv_fcmp hx hb dX5_bitsOfFloat_50 ?_
  refine lv_if_ge (tgt := 67) hx hb dX5_bitsOfFloat_51 (by decide) (fun c => absurd c hk51_0) (fun c_5 => ?_)
  refine lv_fload_n hx hb dX5_bitsOfFloat_54 rfl (lv_at hl 2 rfl) ?_
  refine lv_fconst2 hx hb dX5_bitsOfFloat_55 ?_
  refine lv_fmul hx hb dX5_bitsOfFloat_56 hn56_0 ?_
  refine lv_fstore_n (lv' := [(1, .float (FP.fmul x FP.fconst2)), (3, .int (0 : Int32)), (2, .int (127 : Int32)), (0, .float x)]) hx hb dX5_bitsOfFloat_57 rfl hl (by decide) rfl (fun ls hl => ?_)
  refine lv_iinc (v := 126) (k := 2) (lv' := [(2, .int (126 : Int32)), (1, .float (FP.fmul x FP.fconst2)), (3, .int (0 : Int32)), (0, .float x)]) hx hb dX5_bitsOfFloat_58 hl rfl rfl (by decide) rfl (fun ls hl => ?_)
  refine lv_iinc (v := 1) (k := 2) (lv' := [(3, .int (1 : Int32)), (2, .int (126 : Int32)), (1, .float (FP.fmul x FP.fconst2)), (0, .float x)]) hx hb dX5_bitsOfFloat_61 hl rfl rfl (by decide) rfl (fun ls hl => ?_)
  refine lv_goto (tgt := 42) hx hb dX5_bitsOfFloat_64 (by decide) ?_
  refine lv_iload_n hx hb dX5_bitsOfFloat_42 rfl (lv_at hl 0 rfl) ?_
  refine lv_bipush (v := 127) hx hb dX5_bitsOfFloat_43 (by decide) ?_
  refine nv_ge hx hb 1 127 67 (by omega) (by omega) dX5_bitsOfFloat_45 (by decide) (fun c => absurd c (by decide)) (fun c_6 => ?_)
  refine lv_fload_n hx hb dX5_bitsOfFloat_48 rfl (lv_at hl 2 rfl) ?_
  refine lv_fconst1 hx hb dX5_bitsOfFloat_49 ?_
  refine lv_fcmp hx hb dX5_bitsOfFloat_50 ?_
  refine lv_if_ge (tgt := 67) hx hb dX5_bitsOfFloat_51 (by decide) (fun c_7 => ?_) (fun c => absurd hk51_1 c)
  refine lv_fload_n hx hb dX5_bitsOfFloat_67 rfl (lv_at hl 2 rfl) ?_
  refine lv_fconst1 hx hb dX5_bitsOfFloat_68 ?_
  refine lv_fsub hx hb dX5_bitsOfFloat_69 hn69_0 ?_
  refine nv_ldcwf hx hb hown (hw _ aw_749) dX5_bitsOfFloat_70 ?_
  refine lv_fmul hx hb dX5_bitsOfFloat_73 hn73_0 ?_
  refine lv_f2i hx hb dX5_bitsOfFloat_74 ?_
  refine lv_istore_n (lv' := [(3, .int (FP.f2i (FP.fmul (FP.fsub (FP.fmul x FP.fconst2) FP.fconst1) (1258291200 : UInt32)))), (2, .int (126 : Int32)), (1, .float (FP.fmul x FP.fconst2)), (0, .float x)]) hx hb dX5_bitsOfFloat_75 rfl hl (by decide) rfl (fun ls hl => ?_)
  refine lv_iload_n hx hb dX5_bitsOfFloat_76 rfl (lv_at hl 1 rfl) ?_
  refine lv_bipush (v := 23) hx hb dX5_bitsOfFloat_77 (by decide) ?_
  refine lv_ishl hx hb dX5_bitsOfFloat_79 ?_
  refine lv_iload_n hx hb dX5_bitsOfFloat_80 rfl (lv_at hl 0 rfl) ?_
  refine lv_iadd hx hb dX5_bitsOfFloat_81 ?_
  rw [← hQQ]; exact W.iret hx hb hr (ct_end (F := (f_X5_bitsOfFloat_m1 x)) (u := (((126 : Int32) <<< ((23 : Int32) &&& 31)) + (FP.f2i (FP.fmul (FP.fsub (FP.fmul x FP.fconst2) FP.fconst1) (1258291200 : UInt32))))) (rf := (fun u => some (.int u))) (wf := (fun _ => [].flatten)) rfl rfl hP hD hS) hS.2.2 dX5_bitsOfFloat_82
def f_X5_bitsOfFloat_0 (x : UInt32) : Int32 := (((127 : Int32) <<< ((23 : Int32) &&& 31)) + (FP.f2i (FP.fmul (FP.fsub x FP.fconst1) (1258291200 : UInt32))))
set_option maxRecDepth 100000 in
set_option maxHeartbeats 4000000 in
theorem k_X5_bitsOfFloat_0 (l : Launch) (G : va_G) (cI cS cL : ClassId) (x : UInt32) (hk3_0 : 0 < (Op.cmpValue (FP.fcmp x FP.fconst0) .l)) (hk24_0 : (Op.cmpValue (FP.fcmp x FP.fconst2) .l) < 0) (hk51_0 : 0 ≤ (Op.cmpValue (FP.fcmp x FP.fconst1) .g)) (hn69_0 : vf_n32 (FP.fsub x FP.fconst1)) (hn73_0 : vf_n32 (FP.fmul (FP.fsub x FP.fconst1) (1258291200 : UInt32))) : Ct l G (tyl cI cS cL) yX5_bitsOfFloat cX5_bitsOfFloat 4 (some (Jvm.ClassFile.FieldType.int)) 0 0 0 0 [.float x] [].flatten (f_X5_bitsOfFloat_0 x) (fun u => some (.int u)) (fun _ => [].flatten) := by
  refine Ct.of (by decide +kernel) (Nat.le_of_ble_eq_true rfl) ?_
  intro p e s m args below meth c A ls hx hb hr hml hw hown hlocks hin hK hN hP hD hS hA hl
  have hown : s.vm.findClass RX5 = some m.cls := hown
  have X : Cx p s m args c cX5_bitsOfFloat 4 RX5 G (tyl cI cS cL) := ⟨hx, hb, hml, hown, hw, hK, hN⟩
  have hP : va_P G classes [].flatten s.heap := hP
  have hl : lv_has ls 4 [(0, .float x)] := hl
  generalize hQQ : MQ below _ args s 0 0 A = QQ
  refine lv_fload_n hx hb dX5_bitsOfFloat_0 rfl (lv_at hl 0 rfl) ?_
  refine lv_fconst0 hx hb dX5_bitsOfFloat_1 ?_
  refine lv_fcmp hx hb dX5_bitsOfFloat_2 ?_
  refine lv_if_gt (tgt := 8) hx hb dX5_bitsOfFloat_3 (by decide) (fun c_1 => ?_) (fun c => absurd hk3_0 c)
  refine lv_fload_n hx hb dX5_bitsOfFloat_8 rfl (lv_at hl 0 rfl) ?_
  refine lv_fstore_n (lv' := [(1, .float x), (0, .float x)]) hx hb dX5_bitsOfFloat_9 rfl hl (by decide) rfl (fun ls hl => ?_)
  refine lv_bipush (v := 127) hx hb dX5_bitsOfFloat_10 (by decide) ?_
  refine lv_istore_n (lv' := [(2, .int (127 : Int32)), (1, .float x), (0, .float x)]) hx hb dX5_bitsOfFloat_12 rfl hl (by decide) rfl (fun ls hl => ?_)
  refine lv_iconst (v := 0) hx hb dX5_bitsOfFloat_13 (by decide) ?_
  refine lv_istore_n (lv' := [(3, .int (0 : Int32)), (2, .int (127 : Int32)), (1, .float x), (0, .float x)]) hx hb dX5_bitsOfFloat_14 rfl hl (by decide) rfl (fun ls hl => ?_)
  refine lv_iload_n hx hb dX5_bitsOfFloat_15 rfl (lv_at hl 0 rfl) ?_
  refine lv_bipush (v := 127) hx hb dX5_bitsOfFloat_16 (by decide) ?_
  refine nv_ge hx hb 0 127 40 (by omega) (by omega) dX5_bitsOfFloat_18 (by decide) (fun c => absurd c (by decide)) (fun c_2 => ?_)
  refine lv_fload_n hx hb dX5_bitsOfFloat_21 rfl (lv_at hl 2 rfl) ?_
  refine lv_fconst2 hx hb dX5_bitsOfFloat_22 ?_
  refine lv_fcmp hx hb dX5_bitsOfFloat_23 ?_
  refine lv_if_lt (tgt := 40) hx hb dX5_bitsOfFloat_24 (by decide) (fun c_3 => ?_) (fun c => absurd hk24_0 c)
  refine lv_iconst (v := 0) hx hb dX5_bitsOfFloat_40 (by decide) ?_
  refine lv_istore_n (lv' := [(3, .int (0 : Int32)), (2, .int (127 : Int32)), (1, .float x), (0, .float x)]) hx hb dX5_bitsOfFloat_41 rfl hl (by decide) rfl (fun ls hl => ?_)
  refine lv_iload_n hx hb dX5_bitsOfFloat_42 rfl (lv_at hl 0 rfl) ?_
  refine lv_bipush (v := 127) hx hb dX5_bitsOfFloat_43 (by decide) ?_
  refine nv_ge hx hb 0 127 67 (by omega) (by omega) dX5_bitsOfFloat_45 (by decide) (fun c => absurd c (by decide)) (fun c_4 => ?_)
  refine lv_fload_n hx hb dX5_bitsOfFloat_48 rfl (lv_at hl 2 rfl) ?_
  refine lv_fconst1 hx hb dX5_bitsOfFloat_49 ?_
  refine lv_fcmp hx hb dX5_bitsOfFloat_50 ?_
  refine lv_if_ge (tgt := 67) hx hb dX5_bitsOfFloat_51 (by decide) (fun c_5 => ?_) (fun c => absurd hk51_0 c)
  refine lv_fload_n hx hb dX5_bitsOfFloat_67 rfl (lv_at hl 2 rfl) ?_
  refine lv_fconst1 hx hb dX5_bitsOfFloat_68 ?_
  refine lv_fsub hx hb dX5_bitsOfFloat_69 hn69_0 ?_
  refine nv_ldcwf hx hb hown (hw _ aw_749) dX5_bitsOfFloat_70 ?_
  refine lv_fmul hx hb dX5_bitsOfFloat_73 hn73_0 ?_
  refine lv_f2i hx hb dX5_bitsOfFloat_74 ?_
  refine lv_istore_n (lv' := [(3, .int (FP.f2i (FP.fmul (FP.fsub x FP.fconst1) (1258291200 : UInt32)))), (2, .int (127 : Int32)), (1, .float x), (0, .float x)]) hx hb dX5_bitsOfFloat_75 rfl hl (by decide) rfl (fun ls hl => ?_)
  refine lv_iload_n hx hb dX5_bitsOfFloat_76 rfl (lv_at hl 1 rfl) ?_
  refine lv_bipush (v := 23) hx hb dX5_bitsOfFloat_77 (by decide) ?_
  refine lv_ishl hx hb dX5_bitsOfFloat_79 ?_
  refine lv_iload_n hx hb dX5_bitsOfFloat_80 rfl (lv_at hl 0 rfl) ?_
  refine lv_iadd hx hb dX5_bitsOfFloat_81 ?_
  rw [← hQQ]; exact W.iret hx hb hr (ct_end (F := (f_X5_bitsOfFloat_0 x)) (u := (((127 : Int32) <<< ((23 : Int32) &&& 31)) + (FP.f2i (FP.fmul (FP.fsub x FP.fconst1) (1258291200 : UInt32))))) (rf := (fun u => some (.int u))) (wf := (fun _ => [].flatten)) rfl rfl hP hD hS) hS.2.2 dX5_bitsOfFloat_82
def f_X5_bitsOfFloat_1 (x : UInt32) : Int32 := (((128 : Int32) <<< ((23 : Int32) &&& 31)) + (FP.f2i (FP.fmul (FP.fsub (FP.fdiv x FP.fconst2) FP.fconst1) (1258291200 : UInt32))))
set_option maxRecDepth 100000 in
set_option maxHeartbeats 4000000 in
theorem k_X5_bitsOfFloat_1 (l : Launch) (G : va_G) (cI cS cL : ClassId) (x : UInt32) (hk3_0 : 0 < (Op.cmpValue (FP.fcmp x FP.fconst0) .l)) (hk24_0 : ¬ ((Op.cmpValue (FP.fcmp x FP.fconst2) .l) < 0)) (hn29_0 : vf_n32 (FP.fdiv x FP.fconst2)) (hk24_1 : (Op.cmpValue (FP.fcmp (FP.fdiv x FP.fconst2) FP.fconst2) .l) < 0) (hk51_0 : 0 ≤ (Op.cmpValue (FP.fcmp (FP.fdiv x FP.fconst2) FP.fconst1) .g)) (hn69_0 : vf_n32 (FP.fsub (FP.fdiv x FP.fconst2) FP.fconst1)) (hn73_0 : vf_n32 (FP.fmul (FP.fsub (FP.fdiv x FP.fconst2) FP.fconst1) (1258291200 : UInt32))) : Ct l G (tyl cI cS cL) yX5_bitsOfFloat cX5_bitsOfFloat 4 (some (Jvm.ClassFile.FieldType.int)) 0 0 0 0 [.float x] [].flatten (f_X5_bitsOfFloat_1 x) (fun u => some (.int u)) (fun _ => [].flatten) := by
  refine Ct.of (by decide +kernel) (Nat.le_of_ble_eq_true rfl) ?_
  intro p e s m args below meth c A ls hx hb hr hml hw hown hlocks hin hK hN hP hD hS hA hl
  have hown : s.vm.findClass RX5 = some m.cls := hown
  have X : Cx p s m args c cX5_bitsOfFloat 4 RX5 G (tyl cI cS cL) := ⟨hx, hb, hml, hown, hw, hK, hN⟩
  have hP : va_P G classes [].flatten s.heap := hP
  have hl : lv_has ls 4 [(0, .float x)] := hl
  generalize hQQ : MQ below _ args s 0 0 A = QQ
  refine lv_fload_n hx hb dX5_bitsOfFloat_0 rfl (lv_at hl 0 rfl) ?_
  refine lv_fconst0 hx hb dX5_bitsOfFloat_1 ?_
  refine lv_fcmp hx hb dX5_bitsOfFloat_2 ?_
  refine lv_if_gt (tgt := 8) hx hb dX5_bitsOfFloat_3 (by decide) (fun c_1 => ?_) (fun c => absurd hk3_0 c)
  refine lv_fload_n hx hb dX5_bitsOfFloat_8 rfl (lv_at hl 0 rfl) ?_
  refine lv_fstore_n (lv' := [(1, .float x), (0, .float x)]) hx hb dX5_bitsOfFloat_9 rfl hl (by decide) rfl (fun ls hl => ?_)
  refine lv_bipush (v := 127) hx hb dX5_bitsOfFloat_10 (by decide) ?_
  refine lv_istore_n (lv' := [(2, .int (127 : Int32)), (1, .float x), (0, .float x)]) hx hb dX5_bitsOfFloat_12 rfl hl (by decide) rfl (fun ls hl => ?_)
  refine lv_iconst (v := 0) hx hb dX5_bitsOfFloat_13 (by decide) ?_
  refine lv_istore_n (lv' := [(3, .int (0 : Int32)), (2, .int (127 : Int32)), (1, .float x), (0, .float x)]) hx hb dX5_bitsOfFloat_14 rfl hl (by decide) rfl (fun ls hl => ?_)
  refine lv_iload_n hx hb dX5_bitsOfFloat_15 rfl (lv_at hl 0 rfl) ?_
  refine lv_bipush (v := 127) hx hb dX5_bitsOfFloat_16 (by decide) ?_
  refine nv_ge hx hb 0 127 40 (by omega) (by omega) dX5_bitsOfFloat_18 (by decide) (fun c => absurd c (by decide)) (fun c_2 => ?_)
  refine lv_fload_n hx hb dX5_bitsOfFloat_21 rfl (lv_at hl 2 rfl) ?_
  refine lv_fconst2 hx hb dX5_bitsOfFloat_22 ?_
  refine lv_fcmp hx hb dX5_bitsOfFloat_23 ?_
  refine lv_if_lt (tgt := 40) hx hb dX5_bitsOfFloat_24 (by decide) (fun c => absurd c hk24_0) (fun c_3 => ?_)
  refine lv_fload_n hx hb dX5_bitsOfFloat_27 rfl (lv_at hl 2 rfl) ?_
  refine lv_fconst2 hx hb dX5_bitsOfFloat_28 ?_
  refine lv_fdiv hx hb dX5_bitsOfFloat_29 hn29_0 ?_
  refine lv_fstore_n (lv' := [(1, .float (FP.fdiv x FP.fconst2)), (3, .int (0 : Int32)), (2, .int (127 : Int32)), (0, .float x)]) hx hb dX5_bitsOfFloat_30 rfl hl (by decide) rfl (fun ls hl => ?_)
  refine lv_iinc (v := 128) (k := 2) (lv' := [(2, .int (128 : Int32)), (1, .float (FP.fdiv x FP.fconst2)), (3, .int (0 : Int32)), (0, .float x)]) hx hb dX5_bitsOfFloat_31 hl rfl rfl (by decide) rfl (fun ls hl => ?_)
  refine lv_iinc (v := 1) (k := 2) (lv' := [(3, .int (1 : Int32)), (2, .int (128 : Int32)), (1, .float (FP.fdiv x FP.fconst2)), (0, .float x)]) hx hb dX5_bitsOfFloat_34 hl rfl rfl (by decide) rfl (fun ls hl => ?_)
  refine lv_goto (tgt := 15) hx hb dX5_bitsOfFloat_37 (by decide) ?_
  refine lv_iload_n hx hb dX5_bitsOfFloat_15 rfl (lv_at hl 0 rfl) ?_
  refine lv_bipush (v := 127) hx hb dX5_bitsOfFloat_16 (by decide) ?_
  refine nv_ge hx hb 1 127 40 (by omega) (by omega) dX5_bitsOfFloat_18 (by decide) (fun c => absurd c (by decide)) (fun c_4 => ?_)
  refine lv_fload_n hx hb dX5_bitsOfFloat_21 rfl (lv_at hl 2 rfl) ?_
  refine lv_fconst2 hx hb dX5_bitsOfFloat_22 ?_
  refine lv_fcmp hx hb dX5_bitsOfFloat_23 ?_
  refine lv_if_lt (tgt := 40) hx hb dX5_bitsOfFloat_24 (by decide) (fun c_5 => ?_) (fun c => absurd hk24_1 c)
  refine lv_iconst (v := 0) hx hb dX5_bitsOfFloat_40 (by decide) ?_
  refine lv_istore_n (lv' := [(3, .int (0 : Int32)), (2, .int (128 : Int32)), (1, .float (FP.fdiv x FP.fconst2)), (0, .float x)]) hx hb dX5_bitsOfFloat_41 rfl hl (by decide) rfl (fun ls hl => ?_)
  refine lv_iload_n hx hb dX5_bitsOfFloat_42 rfl (lv_at hl 0 rfl) ?_
  refine lv_bipush (v := 127) hx hb dX5_bitsOfFloat_43 (by decide) ?_
  refine nv_ge hx hb 0 127 67 (by omega) (by omega) dX5_bitsOfFloat_45 (by decide) (fun c => absurd c (by decide)) (fun c_6 => ?_)
  refine lv_fload_n hx hb dX5_bitsOfFloat_48 rfl (lv_at hl 2 rfl) ?_
  refine lv_fconst1 hx hb dX5_bitsOfFloat_49 ?_
  refine lv_fcmp hx hb dX5_bitsOfFloat_50 ?_
  refine lv_if_ge (tgt := 67) hx hb dX5_bitsOfFloat_51 (by decide) (fun c_7 => ?_) (fun c => absurd hk51_0 c)
  refine lv_fload_n hx hb dX5_bitsOfFloat_67 rfl (lv_at hl 2 rfl) ?_
  refine lv_fconst1 hx hb dX5_bitsOfFloat_68 ?_
  refine lv_fsub hx hb dX5_bitsOfFloat_69 hn69_0 ?_
  refine nv_ldcwf hx hb hown (hw _ aw_749) dX5_bitsOfFloat_70 ?_
  refine lv_fmul hx hb dX5_bitsOfFloat_73 hn73_0 ?_
  refine lv_f2i hx hb dX5_bitsOfFloat_74 ?_
  refine lv_istore_n (lv' := [(3, .int (FP.f2i (FP.fmul (FP.fsub (FP.fdiv x FP.fconst2) FP.fconst1) (1258291200 : UInt32)))), (2, .int (128 : Int32)), (1, .float (FP.fdiv x FP.fconst2)), (0, .float x)]) hx hb dX5_bitsOfFloat_75 rfl hl (by decide) rfl (fun ls hl => ?_)
  refine lv_iload_n hx hb dX5_bitsOfFloat_76 rfl (lv_at hl 1 rfl) ?_
  refine lv_bipush (v := 23) hx hb dX5_bitsOfFloat_77 (by decide) ?_
  refine lv_ishl hx hb dX5_bitsOfFloat_79 ?_
  refine lv_iload_n hx hb dX5_bitsOfFloat_80 rfl (lv_at hl 0 rfl) ?_
  refine lv_iadd hx hb dX5_bitsOfFloat_81 ?_
  rw [← hQQ]; exact W.iret hx hb hr (ct_end (F := (f_X5_bitsOfFloat_1 x)) (u := (((128 : Int32) <<< ((23 : Int32) &&& 31)) + (FP.f2i (FP.fmul (FP.fsub (FP.fdiv x FP.fconst2) FP.fconst1) (1258291200 : UInt32))))) (rf := (fun u => some (.int u))) (wf := (fun _ => [].flatten)) rfl rfl hP hD hS) hS.2.2 dX5_bitsOfFloat_82
def f_X5_bitsOfFloat_2 (x : UInt32) : Int32 := (((129 : Int32) <<< ((23 : Int32) &&& 31)) + (FP.f2i (FP.fmul (FP.fsub (FP.fdiv (FP.fdiv x FP.fconst2) FP.fconst2) FP.fconst1) (1258291200 : UInt32))))
set_option maxRecDepth 100000 in
set_option maxHeartbeats 4000000 in
theorem k_X5_bitsOfFloat_2 (l : Launch) (G : va_G) (cI cS cL : ClassId) (x : UInt32) (hk3_0 : 0 < (Op.cmpValue (FP.fcmp x FP.fconst0) .l)) (hk24_0 : ¬ ((Op.cmpValue (FP.fcmp x FP.fconst2) .l) < 0)) (hn29_0 : vf_n32 (FP.fdiv x FP.fconst2)) (hk24_1 : ¬ ((Op.cmpValue (FP.fcmp (FP.fdiv x FP.fconst2) FP.fconst2) .l) < 0)) (hn29_1 : vf_n32 (FP.fdiv (FP.fdiv x FP.fconst2) FP.fconst2)) (hk24_2 : (Op.cmpValue (FP.fcmp (FP.fdiv (FP.fdiv x FP.fconst2) FP.fconst2) FP.fconst2) .l) < 0) (hk51_0 : 0 ≤ (Op.cmpValue (FP.fcmp (FP.fdiv (FP.fdiv x FP.fconst2) FP.fconst2) FP.fconst1) .g)) (hn69_0 : vf_n32 (FP.fsub (FP.fdiv (FP.fdiv x FP.fconst2) FP.fconst2) FP.fconst1)) (hn73_0 : vf_n32 (FP.fmul (FP.fsub (FP.fdiv (FP.fdiv x FP.fconst2) FP.fconst2) FP.fconst1) (1258291200 : UInt32))) : Ct l G (tyl cI cS cL) yX5_bitsOfFloat cX5_bitsOfFloat 4 (some (Jvm.ClassFile.FieldType.int)) 0 0 0 0 [.float x] [].flatten (f_X5_bitsOfFloat_2 x) (fun u => some (.int u)) (fun _ => [].flatten) := by
  refine Ct.of (by decide +kernel) (Nat.le_of_ble_eq_true rfl) ?_
  intro p e s m args below meth c A ls hx hb hr hml hw hown hlocks hin hK hN hP hD hS hA hl
  have hown : s.vm.findClass RX5 = some m.cls := hown
  have X : Cx p s m args c cX5_bitsOfFloat 4 RX5 G (tyl cI cS cL) := ⟨hx, hb, hml, hown, hw, hK, hN⟩
  have hP : va_P G classes [].flatten s.heap := hP
  have hl : lv_has ls 4 [(0, .float x)] := hl
  generalize hQQ : MQ below _ args s 0 0 A = QQ
  refine lv_fload_n hx hb dX5_bitsOfFloat_0 rfl (lv_at hl 0 rfl) ?_
  refine lv_fconst0 hx hb dX5_bitsOfFloat_1 ?_
  refine lv_fcmp hx hb dX5_bitsOfFloat_2 ?_
  refine lv_if_gt (tgt := 8) hx hb dX5_bitsOfFloat_3 (by decide) (fun c_1 => ?_) (fun c => absurd hk3_0 c)
  refine lv_fload_n hx hb dX5_bitsOfFloat_8 rfl (lv_at hl 0 rfl) ?_
  refine lv_fstore_n (lv' := [(1, .float x), (0, .float x)]) hx hb dX5_bitsOfFloat_9 rfl hl (by decide) rfl (fun ls hl => ?_)
  refine lv_bipush (v := 127) hx hb dX5_bitsOfFloat_10 (by decide) ?_
  refine lv_istore_n (lv' := [(2, .int (127 : Int32)), (1, .float x), (0, .float x)]) hx hb dX5_bitsOfFloat_12 rfl hl (by decide) rfl (fun ls hl => ?_)
  refine lv_iconst (v := 0) hx hb dX5_bitsOfFloat_13 (by decide) ?_
  refine lv_istore_n (lv' := [(3, .int (0 : Int32)), (2, .int (127 : Int32)), (1, .float x), (0, .float x)]) hx hb dX5_bitsOfFloat_14 rfl hl (by decide) rfl (fun ls hl => ?_)
  refine lv_iload_n hx hb dX5_bitsOfFloat_15 rfl (lv_at hl 0 rfl) ?_
  refine lv_bipush (v := 127) hx hb dX5_bitsOfFloat_16 (by decide) ?_
  refine nv_ge hx hb 0 127 40 (by omega) (by omega) dX5_bitsOfFloat_18 (by decide) (fun c => absurd c (by decide)) (fun c_2 => ?_)
  refine lv_fload_n hx hb dX5_bitsOfFloat_21 rfl (lv_at hl 2 rfl) ?_
  refine lv_fconst2 hx hb dX5_bitsOfFloat_22 ?_
  refine lv_fcmp hx hb dX5_bitsOfFloat_23 ?_
  refine lv_if_lt (tgt := 40) hx hb dX5_bitsOfFloat_24 (by decide) (fun c => absurd c hk24_0) (fun c_3 => ?_)
  refine lv_fload_n hx hb dX5_bitsOfFloat_27 rfl (lv_at hl 2 rfl) ?_
  refine lv_fconst2 hx hb dX5_bitsOfFloat_28 ?_
  refine lv_fdiv hx hb dX5_bitsOfFloat_29 hn29_0 ?_
  refine lv_fstore_n (lv' := [(1, .float (FP.fdiv x FP.fconst2)), (3, .int (0 : Int32)), (2, .int (127 : Int32)), (0, .float x)]) hx hb dX5_bitsOfFloat_30 rfl hl (by decide) rfl (fun ls hl => ?_)
  refine lv_iinc (v := 128) (k := 2) (lv' := [(2, .int (128 : Int32)), (1, .float (FP.fdiv x FP.fconst2)), (3, .int (0 : Int32)), (0, .float x)]) hx hb dX5_bitsOfFloat_31 hl rfl rfl (by decide) rfl (fun ls hl => ?_)
  refine lv_iinc (v := 1) (k := 2) (lv' := [(3, .int (1 : Int32)), (2, .int (128 : Int32)), (1, .float (FP.fdiv x FP.fconst2)), (0, .float x)]) hx hb dX5_bitsOfFloat_34 hl rfl rfl (by decide) rfl (fun ls hl => ?_)
  refine lv_goto (tgt := 15) hx hb dX5_bitsOfFloat_37 (by decide) ?_
  refine lv_iload_n hx hb dX5_bitsOfFloat_15 rfl (lv_at hl 0 rfl) ?_
  refine lv_bipush (v := 127) hx hb dX5_bitsOfFloat_16 (by decide) ?_
  refine nv_ge hx hb 1 127 40 (by omega) (by omega) dX5_bitsOfFloat_18 (by decide) (fun c => absurd c (by decide)) (fun c_4 => ?_)
  refine lv_fload_n hx hb dX5_bitsOfFloat_21 rfl (lv_at hl 2 rfl) ?_
  refine lv_fconst2 hx hb dX5_bitsOfFloat_22 ?_
  refine lv_fcmp hx hb dX5_bitsOfFloat_23 ?_
  refine lv_if_lt (tgt := 40) hx hb dX5_bitsOfFloat_24 (by decide) (fun c => absurd c hk24_1) (fun c_5 => ?_)
  refine lv_fload_n hx hb dX5_bitsOfFloat_27 rfl (lv_at hl 2 rfl) ?_
  refine lv_fconst2 hx hb dX5_bitsOfFloat_28 ?_
  refine lv_fdiv hx hb dX5_bitsOfFloat_29 hn29_1 ?_
  refine lv_fstore_n (lv' := [(1, .float (FP.fdiv (FP.fdiv x FP.fconst2) FP.fconst2)), (3, .int (1 : Int32)), (2, .int (128 : Int32)), (0, .float x)]) hx hb dX5_bitsOfFloat_30 rfl hl (by decide) rfl (fun ls hl => ?_)
  refine lv_iinc (v := 129) (k := 2) (lv' := [(2, .int (129 : Int32)), (1, .float (FP.fdiv (FP.fdiv x FP.fconst2) FP.fconst2)), (3, .int (1 : Int32)), (0, .float x)]) hx hb dX5_bitsOfFloat_31 hl rfl rfl (by decide) rfl (fun ls hl => ?_)
  refine lv_iinc (v := 2) (k := 2) (lv' := [(3, .int (2 : Int32)), (2, .int (129 : Int32)), (1, .float (FP.fdiv (FP.fdiv x FP.fconst2) FP.fconst2)), (0, .float x)]) hx hb dX5_bitsOfFloat_34 hl rfl rfl (by decide) rfl (fun ls hl => ?_)
  refine lv_goto (tgt := 15) hx hb dX5_bitsOfFloat_37 (by decide) ?_
  refine lv_iload_n hx hb dX5_bitsOfFloat_15 rfl (lv_at hl 0 rfl) ?_
  refine lv_bipush (v := 127) hx hb dX5_bitsOfFloat_16 (by decide) ?_
  refine nv_ge hx hb 2 127 40 (by omega) (by omega) dX5_bitsOfFloat_18 (by decide) (fun c => absurd c (by decide)) (fun c_6 => ?_)
  refine lv_fload_n hx hb dX5_bitsOfFloat_21 rfl (lv_at hl 2 rfl) ?_
  refine lv_fconst2 hx hb dX5_bitsOfFloat_22 ?_
  refine lv_fcmp hx hb dX5_bitsOfFloat_23 ?_
  refine lv_if_lt (tgt := 40) hx hb dX5_bitsOfFloat_24 (by decide) (fun c_7 => ?_) (fun c => absurd hk24_2 c)
  refine lv_iconst (v := 0) hx hb dX5_bitsOfFloat_40 (by decide) ?_
  refine lv_istore_n (lv' := [(3, .int (0 : Int32)), (2, .int (129 : Int32)), (1, .float (FP.fdiv (FP.fdiv x FP.fconst2) FP.fconst2)), (0, .float x)]) hx hb dX5_bitsOfFloat_41 rfl hl (by decide) rfl (fun ls hl => ?_)
  refine lv_iload_n hx hb dX5_bitsOfFloat_42 rfl (lv_at hl 0 rfl) ?_
  refine lv_bipush (v := 127) hx hb dX5_bitsOfFloat_43 (by decide) ?_
  refine nv_ge hx hb 0 127 67 (by omega) (by omega) dX5_bitsOfFloat_45 (by decide) (fun c => absurd c (by decide)) (fun c_8 => ?_)
  refine lv_fload_n hx hb dX5_bitsOfFloat_48 rfl (lv_at hl 2 rfl) ?_
  refine lv_fconst1 hx hb dX5_bitsOfFloat_49 ?_
  refine lv_fcmp hx hb dX5_bitsOfFloat_50 ?_
  refine lv_if_ge (tgt := 67) hx hb dX5_bitsOfFloat_51 (by decide) (fun c_9 => ?_) (fun c => absurd hk51_0 c)
  refine lv_fload_n hx hb dX5_bitsOfFloat_67 rfl (lv_at hl 2 rfl) ?_
  refine lv_fconst1 hx hb dX5_bitsOfFloat_68 ?_
  refine lv_fsub hx hb dX5_bitsOfFloat_69 hn69_0 ?_
  refine nv_ldcwf hx hb hown (hw _ aw_749) dX5_bitsOfFloat_70 ?_
  refine lv_fmul hx hb dX5_bitsOfFloat_73 hn73_0 ?_
  refine lv_f2i hx hb dX5_bitsOfFloat_74 ?_
  refine lv_istore_n (lv' := [(3, .int (FP.f2i (FP.fmul (FP.fsub (FP.fdiv (FP.fdiv x FP.fconst2) FP.fconst2) FP.fconst1) (1258291200 : UInt32)))), (2, .int (129 : Int32)), (1, .float (FP.fdiv (FP.fdiv x FP.fconst2) FP.fconst2)), (0, .float x)]) hx hb dX5_bitsOfFloat_75 rfl hl (by decide) rfl (fun ls hl => ?_)
  refine lv_iload_n hx hb dX5_bitsOfFloat_76 rfl (lv_at hl 1 rfl) ?_
  refine lv_bipush (v := 23) hx hb dX5_bitsOfFloat_77 (by decide) ?_
  refine lv_ishl hx hb dX5_bitsOfFloat_79 ?_
  refine lv_iload_n hx hb dX5_bitsOfFloat_80 rfl (lv_at hl 0 rfl) ?_
  refine lv_iadd hx hb dX5_bitsOfFloat_81 ?_
  rw [← hQQ]; exact W.iret hx hb hr (ct_end (F := (f_X5_bitsOfFloat_2 x)) (u := (((129 : Int32) <<< ((23 : Int32) &&& 31)) + (FP.f2i (FP.fmul (FP.fsub (FP.fdiv (FP.fdiv x FP.fconst2) FP.fconst2) FP.fconst1) (1258291200 : UInt32))))) (rf := (fun u => some (.int u))) (wf := (fun _ => [].flatten)) rfl rfl hP hD hS) hS.2.2 dX5_bitsOfFloat_82
def f_X5_bitsOfFloat_3 (x : UInt32) : Int32 := (((130 : Int32) <<< ((23 : Int32) &&& 31)) + (FP.f2i (FP.fmul (FP.fsub (FP.fdiv (FP.fdiv (FP.fdiv x FP.fconst2) FP.fconst2) FP.fconst2) FP.fconst1) (1258291200 : UInt32))))
set_option maxRecDepth 100000 in
set_option maxHeartbeats 4000000 in
theorem k_X5_bitsOfFloat_3 (l : Launch) (G : va_G) (cI cS cL : ClassId) (x : UInt32) (hk3_0 : 0 < (Op.cmpValue (FP.fcmp x FP.fconst0) .l)) (hk24_0 : ¬ ((Op.cmpValue (FP.fcmp x FP.fconst2) .l) < 0)) (hn29_0 : vf_n32 (FP.fdiv x FP.fconst2)) (hk24_1 : ¬ ((Op.cmpValue (FP.fcmp (FP.fdiv x FP.fconst2) FP.fconst2) .l) < 0)) (hn29_1 : vf_n32 (FP.fdiv (FP.fdiv x FP.fconst2) FP.fconst2)) (hk24_2 : ¬ ((Op.cmpValue (FP.fcmp (FP.fdiv (FP.fdiv x FP.fconst2) FP.fconst2) FP.fconst2) .l) < 0)) (hn29_2 : vf_n32 (FP.fdiv (FP.fdiv (FP.fdiv x FP.fconst2) FP.fconst2) FP.fconst2)) (hk24_3 : (Op.cmpValue (FP.fcmp (FP.fdiv (FP.fdiv (FP.fdiv x FP.fconst2) FP.fconst2) FP.fconst2) FP.fconst2) .l) < 0) (hk51_0 : 0 ≤ (Op.cmpValue (FP.fcmp (FP.fdiv (FP.fdiv (FP.fdiv x FP.fconst2) FP.fconst2) FP.fconst2) FP.fconst1) .g)) (hn69_0 : vf_n32 (FP.fsub (FP.fdiv (FP.fdiv (FP.fdiv x FP.fconst2) FP.fconst2) FP.fconst2) FP.fconst1)) (hn73_0 : vf_n32 (FP.fmul (FP.fsub (FP.fdiv (FP.fdiv (FP.fdiv x FP.fconst2) FP.fconst2) FP.fconst2) FP.fconst1) (1258291200 : UInt32))) : Ct l G (tyl cI cS cL) yX5_bitsOfFloat cX5_bitsOfFloat 4 (some (Jvm.ClassFile.FieldType.int)) 0 0 0 0 [.float x] [].flatten (f_X5_bitsOfFloat_3 x) (fun u => some (.int u)) (fun _ => [].flatten) := by
  refine Ct.of (by decide +kernel) (Nat.le_of_ble_eq_true rfl) ?_
  intro p e s m args below meth c A ls hx hb hr hml hw hown hlocks hin hK hN hP hD hS hA hl
  have hown : s.vm.findClass RX5 = some m.cls := hown
  have X : Cx p s m args c cX5_bitsOfFloat 4 RX5 G (tyl cI cS cL) := ⟨hx, hb, hml, hown, hw, hK, hN⟩
  have hP : va_P G classes [].flatten s.heap := hP
  have hl : lv_has ls 4 [(0, .float x)] := hl
  generalize hQQ : MQ below _ args s 0 0 A = QQ
  refine lv_fload_n hx hb dX5_bitsOfFloat_0 rfl (lv_at hl 0 rfl) ?_
  refine lv_fconst0 hx hb dX5_bitsOfFloat_1 ?_
  refine lv_fcmp hx hb dX5_bitsOfFloat_2 ?_
  refine lv_if_gt (tgt := 8) hx hb dX5_bitsOfFloat_3 (by decide) (fun c_1 => ?_) (fun c => absurd hk3_0 c)
  refine lv_fload_n hx hb dX5_bitsOfFloat_8 rfl (lv_at hl 0 rfl) ?_
  refine lv_fstore_n (lv' := [(1, .float x), (0, .float x)]) hx hb dX5_bitsOfFloat_9 rfl hl (by decide) rfl (fun ls hl => ?_)
  refine lv_bipush (v := 127) hx hb dX5_bitsOfFloat_10 (by decide) ?_
  refine lv_istore_n (lv' := [(2, .int (127 : Int32)), (1, .float x), (0, .float x)]) hx hb dX5_bitsOfFloat_12 rfl hl (by decide) rfl (fun ls hl => ?_)
  refine lv_iconst (v := 0) hx hb dX5_bitsOfFloat_13 (by decide) ?_
  refine lv_istore_n (lv' := [(3, .int (0 : Int32)), (2, .int (127 : Int32)), (1, .float x), (0, .float x)]) hx hb dX5_bitsOfFloat_14 rfl hl (by decide) rfl (fun ls hl => ?_)
  refine lv_iload_n hx hb dX5_bitsOfFloat_15 rfl (lv_at hl 0 rfl) ?_
  refine lv_bipush (v := 127) hx hb dX5_bitsOfFloat_16 (by decide) ?_
  refine nv_ge hx hb 0 127 40 (by omega) (by omega) dX5_bitsOfFloat_18 (by decide) (fun c => absurd c (by decide)) (fun c_2 => ?_)
  refine lv_fload_n hx hb dX5_bitsOfFloat_21 rfl (lv_at hl 2 rfl) ?_
  refine lv_fconst2 hx hb dX5_bitsOfFloat_22 ?_
  refine lv_fcmp hx hb dX5_bitsOfFloat_23 ?_
  refine lv_if_lt (tgt := 40) hx hb dX5_bitsOfFloat_24 (by decide) (fun c => absurd c hk24_0) (fun c_3 => ?_)
  refine lv_fload_n hx hb dX5_bitsOfFloat_27 rfl (lv_at hl 2 rfl) ?_
  refine lv_fconst2 hx hb dX5_bitsOfFloat_28 ?_
  refine lv_fdiv hx hb dX5_bitsOfFloat_29 hn29_0 ?_
  refine lv_fstore_n (lv' := [(1, .float (FP.fdiv x FP.fconst2)), (3, .int (0 : Int32)), (2, .int (127 : Int32)), (0, .float x)]) hx hb dX5_bitsOfFloat_30 rfl hl (by decide) rfl (fun ls hl => ?_)
  refine lv_iinc (v := 128) (k := 2) (lv' := [(2, .int (128 : Int32)), (1, .float (FP.fdiv x FP.fconst2)), (3, .int (0 : Int32)), (0, .float x)]) hx hb dX5_bitsOfFloat_31 hl rfl rfl (by decide) rfl (fun ls hl => ?_)
  refine lv_iinc (v := 1) (k := 2) (lv' := [(3, .int (1 : Int32)), (2, .int (128 : Int32)), (1, .float (FP.fdiv x FP.fconst2)), (0, .float x)]) hx hb dX5_bitsOfFloat_34 hl rfl rfl (by decide) rfl (fun ls hl => ?_)
  refine lv_goto (tgt := 15) hx hb dX5_bitsOfFloat_37 (by decide) ?_
  refine lv_iload_n hx hb dX5_bitsOfFloat_15 rfl (lv_at hl 0 rfl) ?_
  refine lv_bipush (v := 127) hx hb dX5_bitsOfFloat_16 (by decide) ?_
  refine nv_ge hx hb 1 127 40 (by omega) (by omega) dX5_bitsOfFloat_18 (by decide) (fun c => absurd c (by decide)) (fun c_4 => ?_)
  refine lv_fload_n hx hb dX5_bitsOfFloat_21 rfl (lv_at hl 2 rfl) ?_
  refine lv_fconst2 hx hb dX5_bitsOfFloat_22 ?_
  refine lv_fcmp hx hb dX5_bitsOfFloat_23 ?_
  refine lv_if_lt (tgt := 40) hx hb dX5_bitsOfFloat_24 (by decide) (fun c => absurd c hk24_1) (fun c_5 => ?_)
  refine lv_fload_n hx hb dX5_bitsOfFloat_27 rfl (lv_at hl 2 rfl) ?_
  refine lv_fconst2 hx hb dX5_bitsOfFloat_28 ?_
  refine lv_fdiv hx hb dX5_bitsOfFloat_29 hn29_1 ?_
  refine lv_fstore_n (lv' := [(1, .float (FP.fdiv (FP.fdiv x FP.fconst2) FP.fconst2)), (3, .int (1 : Int32)), (2, .int (128 : Int32)), (0, .float x)]) hx hb dX5_bitsOfFloat_30 rfl hl (by decide) rfl (fun ls hl => ?_)
  refine lv_iinc (v := 129) (k := 2) (lv' := [(2, .int (129 : Int32)), (1, .float (FP.fdiv (FP.fdiv x FP.fconst2) FP.fconst2)), (3, .int (1 : Int32)), (0, .float x)]) hx hb dX5_bitsOfFloat_31 hl rfl rfl (by decide) rfl (fun ls hl => ?_)
  refine lv_iinc (v := 2) (k := 2) (lv' := [(3, .int (2 : Int32)), (2, .int (129 : Int32)), (1, .float (FP.fdiv (FP.fdiv x FP.fconst2) FP.fconst2)), (0, .float x)]) hx hb dX5_bitsOfFloat_34 hl rfl rfl (by decide) rfl (fun ls hl => ?_)
  refine lv_goto (tgt := 15) hx hb dX5_bitsOfFloat_37 (by decide) ?_
  refine lv_iload_n hx hb dX5_bitsOfFloat_15 rfl (lv_at hl 0 rfl) ?_
  refine lv_bipush (v := 127) hx hb dX5_bitsOfFloat_16 (by decide) ?_
  refine nv_ge hx hb 2 127 40 (by omega) (by omega) dX5_bitsOfFloat_18 (by decide) (fun c => absurd c (by decide)) (fun c_6 => ?_)
  refine lv_fload_n hx hb dX5_bitsOfFloat_21 rfl (lv_at hl 2 rfl) ?_
  refine lv_fconst2 hx hb dX5_bitsOfFloat_22 ?_
  refine lv_fcmp hx hb dX5_bitsOfFloat_23 ?_
  refine lv_if_lt (tgt := 40) hx hb dX5_bitsOfFloat_24 (by decide) (fun c => absurd c hk24_2) (fun c_7 => ?_)
  refine lv_fload_n hx hb dX5_bitsOfFloat_27 rfl (lv_at hl 2 rfl) ?_
  refine lv_fconst2 hx hb dX5_bitsOfFloat_28 ?_
  refine lv_fdiv hx hb dX5_bitsOfFloat_29 hn29_2 ?_
  refine lv_fstore_n (lv' := [(1, .float (FP.fdiv (FP.fdiv (FP.fdiv x FP.fconst2) FP.fconst2) FP.fconst2)), (3, .int (2 : Int32)), (2, .int (129 : Int32)), (0, .float x)]) hx hb dX5_bitsOfFloat_30 rfl hl (by decide) rfl (fun ls hl => ?_)
  refine lv_iinc (v := 130) (k := 2) (lv' := [(2, .int (130 : Int32)), (1, .float (FP.fdiv (FP.fdiv (FP.fdiv x FP.fconst2) FP.fconst2) FP.fconst2)), (3, .int (2 : Int32)), (0, .float x)]) hx hb dX5_bitsOfFloat_31 hl rfl rfl (by decide) rfl (fun ls hl => ?_)
  refine lv_iinc (v := 3) (k := 2) (lv' := [(3, .int (3 : Int32)), (2, .int (130 : Int32)), (1, .float (FP.fdiv (FP.fdiv (FP.fdiv x FP.fconst2) FP.fconst2) FP.fconst2)), (0, .float x)]) hx hb dX5_bitsOfFloat_34 hl rfl rfl (by decide) rfl (fun ls hl => ?_)
  refine lv_goto (tgt := 15) hx hb dX5_bitsOfFloat_37 (by decide) ?_
  refine lv_iload_n hx hb dX5_bitsOfFloat_15 rfl (lv_at hl 0 rfl) ?_
  refine lv_bipush (v := 127) hx hb dX5_bitsOfFloat_16 (by decide) ?_
  refine nv_ge hx hb 3 127 40 (by omega) (by omega) dX5_bitsOfFloat_18 (by decide) (fun c => absurd c (by decide)) (fun c_8 => ?_)
  refine lv_fload_n hx hb dX5_bitsOfFloat_21 rfl (lv_at hl 2 rfl) ?_
  refine lv_fconst2 hx hb dX5_bitsOfFloat_22 ?_
  refine lv_fcmp hx hb dX5_bitsOfFloat_23 ?_
  refine lv_if_lt (tgt := 40) hx hb dX5_bitsOfFloat_24 (by decide) (fun c_9 => ?_) (fun c => absurd hk24_3 c)
  refine lv_iconst (v := 0) hx hb dX5_bitsOfFloat_40 (by decide) ?_
  refine lv_istore_n (lv' := [(3, .int (0 : Int32)), (2, .int (130 : Int32)), (1, .float (FP.fdiv (FP.fdiv (FP.fdiv x FP.fconst2) FP.fconst2) FP.fconst2)), (0, .float x)]) hx hb dX5_bitsOfFloat_41 rfl hl (by decide) rfl (fun ls hl => ?_)
  refine lv_iload_n hx hb dX5_bitsOfFloat_42 rfl (lv_at hl 0 rfl) ?_
  refine lv_bipush (v := 127) hx hb dX5_bitsOfFloat_43 (by decide) ?_
  refine nv_ge hx hb 0 127 67 (by omega) (by omega) dX5_bitsOfFloat_45 (by decide) (fun c => absurd c (by decide)) (fun c_10 => ?_)
  refine lv_fload_n hx hb dX5_bitsOfFloat_48 rfl (lv_at hl 2 rfl) ?_
  refine lv_fconst1 hx hb dX5_bitsOfFloat_49 ?_
  refine lv_fcmp hx hb dX5_bitsOfFloat_50 ?_
  refine lv_if_ge (tgt := 67) hx hb dX5_bitsOfFloat_51 (by decide) (fun c_11 => ?_) (fun c => absurd hk51_0 c)
  refine lv_fload_n hx hb dX5_bitsOfFloat_67 rfl (lv_at hl 2 rfl) ?_
  refine lv_fconst1 hx hb dX5_bitsOfFloat_68 ?_
  refine lv_fsub hx hb dX5_bitsOfFloat_69 hn69_0 ?_
  refine nv_ldcwf hx hb hown (hw _ aw_749) dX5_bitsOfFloat_70 ?_
  refine lv_fmul hx hb dX5_bitsOfFloat_73 hn73_0 ?_
  refine lv_f2i hx hb dX5_bitsOfFloat_74 ?_
  refine lv_istore_n (lv' := [(3, .int (FP.f2i (FP.fmul (FP.fsub (FP.fdiv (FP.fdiv (FP.fdiv x FP.fconst2) FP.fconst2) FP.fconst2) FP.fconst1) (1258291200 : UInt32)))), (2, .int (130 : Int32)), (1, .float (FP.fdiv (FP.fdiv (FP.fdiv x FP.fconst2) FP.fconst2) FP.fconst2)), (0, .float x)]) hx hb dX5_bitsOfFloat_75 rfl hl (by decide) rfl (fun ls hl => ?_)
  refine lv_iload_n hx hb dX5_bitsOfFloat_76 rfl (lv_at hl 1 rfl) ?_
  refine lv_bipush (v := 23) hx hb dX5_bitsOfFloat_77 (by decide) ?_
  refine lv_ishl hx hb dX5_bitsOfFloat_79 ?_
  refine lv_iload_n hx hb dX5_bitsOfFloat_80 rfl (lv_at hl 0 rfl) ?_
  refine lv_iadd hx hb dX5_bitsOfFloat_81 ?_
  rw [← hQQ]; exact W.iret hx hb hr (ct_end (F := (f_X5_bitsOfFloat_3 x)) (u := (((130 : Int32) <<< ((23 : Int32) &&& 31)) + (FP.f2i (FP.fmul (FP.fsub (FP.fdiv (FP.fdiv (FP.fdiv x FP.fconst2) FP.fconst2) FP.fconst2) FP.fconst1) (1258291200 : UInt32))))) (rf := (fun u => some (.int u))) (wf := (fun _ => [].flatten)) rfl rfl hP hD hS) hS.2.2 dX5_bitsOfFloat_82
def f_X5_bitsOfFloat_4 (x : UInt32) : Int32 := (((131 : Int32) <<< ((23 : Int32) &&& 31)) + (FP.f2i (FP.fmul (FP.fsub (FP.fdiv (FP.fdiv (FP.fdiv (FP.fdiv x FP.fconst2) FP.fconst2) FP.fconst2) FP.fconst2) FP.fconst1) (1258291200 : UInt32))))
set_option maxRecDepth 100000 in
set_option maxHeartbeats 4000000 in
theorem k_X5_bitsOfFloat_4 (l : Launch) (G : va_G) (cI cS cL : ClassId) (x : UInt32) (hk3_0 : 0 < (Op.cmpValue (FP.fcmp x FP.fconst0) .l)) (hk24_0 : ¬ ((Op.cmpValue (FP.fcmp x FP.fconst2) .l) < 0)) (hn29_0 : vf_n32 (FP.fdiv x FP.fconst2)) (hk24_1 : ¬ ((Op.cmpValue (FP.fcmp (FP.fdiv x FP.fconst2) FP.fconst2) .l) < 0)) (hn29_1 : vf_n32 (FP.fdiv (FP.fdiv x FP.fconst2) FP.fconst2)) (hk24_2 : ¬ ((Op.cmpValue (FP.fcmp (FP.fdiv (FP.fdiv x FP.fconst2) FP.fconst2) FP.fconst2) .l) < 0)) (hn29_2 : vf_n32 (FP.fdiv (FP.fdiv (FP.fdiv x FP.fconst2) FP.fconst2) FP.fconst2)) (hk24_3 : ¬ ((Op.cmpValue (FP.fcmp (FP.fdiv (FP.fdiv (FP.fdiv x FP.fconst2) FP.fconst2) FP.fconst2) FP.fconst2) .l) < 0)) (hn29_3 : vf_n32 (FP.fdiv (FP.fdiv (FP.fdiv (FP.fdiv x FP.fconst2) FP.fconst2) FP.fconst2) FP.fconst2)) (hk24_4 : (Op.cmpValue (FP.fcmp (FP.fdiv (FP.fdiv (FP.fdiv (FP.fdiv x FP.fconst2) FP.fconst2) FP.fconst2) FP.fconst2) FP.fconst2) .l) < 0) (hk51_0 : 0 ≤ (Op.cmpValue (FP.fcmp (FP.fdiv (FP.fdiv (FP.fdiv (FP.fdiv x FP.fconst2) FP.fconst2) FP.fconst2) FP.fconst2) FP.fconst1) .g)) (hn69_0 : vf_n32 (FP.fsub (FP.fdiv (FP.fdiv (FP.fdiv (FP.fdiv x FP.fconst2) FP.fconst2) FP.fconst2) FP.fconst2) FP.fconst1)) (hn73_0 : vf_n32 (FP.fmul (FP.fsub (FP.fdiv (FP.fdiv (FP.fdiv (FP.fdiv x FP.fconst2) FP.fconst2) FP.fconst2) FP.fconst2) FP.fconst1) (1258291200 : UInt32))) : Ct l G (tyl cI cS cL) yX5_bitsOfFloat cX5_bitsOfFloat 4 (some (Jvm.ClassFile.FieldType.int)) 0 0 0 0 [.float x] [].flatten (f_X5_bitsOfFloat_4 x) (fun u => some (.int u)) (fun _ => [].flatten) := by
  refine Ct.of (by decide +kernel) (Nat.le_of_ble_eq_true rfl) ?_
  intro p e s m args below meth c A ls hx hb hr hml hw hown hlocks hin hK hN hP hD hS hA hl
  have hown : s.vm.findClass RX5 = some m.cls := hown
  have X : Cx p s m args c cX5_bitsOfFloat 4 RX5 G (tyl cI cS cL) := ⟨hx, hb, hml, hown, hw, hK, hN⟩
  have hP : va_P G classes [].flatten s.heap := hP
  have hl : lv_has ls 4 [(0, .float x)] := hl
  generalize hQQ : MQ below _ args s 0 0 A = QQ
  refine lv_fload_n hx hb dX5_bitsOfFloat_0 rfl (lv_at hl 0 rfl) ?_
  refine lv_fconst0 hx hb dX5_bitsOfFloat_1 ?_
  refine lv_fcmp hx hb dX5_bitsOfFloat_2 ?_
  refine lv_if_gt (tgt := 8) hx hb dX5_bitsOfFloat_3 (by decide) (fun c_1 => ?_) (fun c => absurd hk3_0 c)
  refine lv_fload_n hx hb dX5_bitsOfFloat_8 rfl (lv_at hl 0 rfl) ?_
  refine lv_fstore_n (lv' := [(1, .float x), (0, .float x)]) hx hb dX5_bitsOfFloat_9 rfl hl (by decide) rfl (fun ls hl => ?_)
  refine lv_bipush (v := 127) hx hb dX5_bitsOfFloat_10 (by decide) ?_
  refine lv_istore_n (lv' := [(2, .int (127 : Int32)), (1, .float x), (0, .float x)]) hx hb dX5_bitsOfFloat_12 rfl hl (by decide) rfl (fun ls hl => ?_)
  refine lv_iconst (v := 0) hx hb dX5_bitsOfFloat_13 (by decide) ?_
  refine lv_istore_n (lv' := [(3, .int (0 : Int32)), (2, .int (127 : Int32)), (1, .float x), (0, .float x)]) hx hb dX5_bitsOfFloat_14 rfl hl (by decide) rfl (fun ls hl => ?_)
  refine lv_iload_n hx hb dX5_bitsOfFloat_15 rfl (lv_at hl 0 rfl) ?_
  refine lv_bipush (v := 127) hx hb dX5_bitsOfFloat_16 (by decide) ?_
  refine nv_ge hx hb 0 127 40 (by omega) (by omega) dX5_bitsOfFloat_18 (by decide) (fun c => absurd c (by decide)) (fun c_2 => ?_)
  refine lv_fload_n hx hb dX5_bitsOfFloat_21 rfl (lv_at hl 2 rfl) ?_
  refine lv_fconst2 hx hb dX5_bitsOfFloat_22 ?_
  refine lv_fcmp hx hb dX5_bitsOfFloat_23 ?_
  refine lv_if_lt (tgt := 40) hx hb dX5_bitsOfFloat_24 (by decide) (fun c => absurd c hk24_0) (fun c_3 => ?_)
  refine lv_fload_n hx hb dX5_bitsOfFloat_27 rfl (lv_at hl 2 rfl) ?_
  refine lv_fconst2 hx hb dX5_bitsOfFloat_28 ?_
  refine lv_fdiv hx hb dX5_bitsOfFloat_29 hn29_0 ?_
  refine lv_fstore_n (lv' := [(1, .float (FP.fdiv x FP.fconst2)), (3, .int (0 : Int32)), (2, .int (127 : Int32)), (0, .float x)]) hx hb dX5_bitsOfFloat_30 rfl hl (by decide) rfl (fun ls hl => ?_)
  refine lv_iinc (v := 128) (k := 2) (lv' := [(2, .int (128 : Int32)), (1, .float (FP.fdiv x FP.fconst2)), (3, .int (0 : Int32)), (0, .float x)]) hx hb dX5_bitsOfFloat_31 hl rfl rfl (by decide) rfl (fun ls hl => ?_)
  refine lv_iinc (v := 1) (k := 2) (lv' := [(3, .int (1 : Int32)), (2, .int (128 : Int32)), (1, .float (FP.fdiv x FP.fconst2)), (0, .float x)]) hx hb dX5_bitsOfFloat_34 hl rfl rfl (by decide) rfl (fun ls hl => ?_)
  refine lv_goto (tgt := 15) hx hb dX5_bitsOfFloat_37 (by decide) ?_
  refine lv_iload_n hx hb dX5_bitsOfFloat_15 rfl (lv_at hl 0 rfl) ?_
  refine lv_bipush (v := 127) hx hb dX5_bitsOfFloat_16 (by decide) ?_
  refine nv_ge hx hb 1 127 40 (by omega) (by omega) dX5_bitsOfFloat_18 (by decide) (fun c => absurd c (by decide)) (fun c_4 => ?_)
  refine lv_fload_n hx hb dX5_bitsOfFloat_21 rfl (lv_at hl 2 rfl) ?_
  refine lv_fconst2 hx hb dX5_bitsOfFloat_22 ?_
  refine lv_fcmp hx hb dX5_bitsOfFloat_23 ?_
  refine lv_if_lt (tgt := 40) hx hb dX5_bitsOfFloat_24 (by decide) (fun c => absurd c hk24_1) (fun c_5 => ?_)
  refine lv_fload_n hx hb dX5_bitsOfFloat_27 rfl (lv_at hl 2 rfl) ?_
  refine lv_fconst2 hx hb dX5_bitsOfFloat_28 ?_
  refine lv_fdiv hx hb dX5_bitsOfFloat_29 hn29_1 ?_
  refine lv_fstore_n (lv' := [(1, .float (FP.fdiv (FP.fdiv x FP.fconst2) FP.fconst2)), (3, .int (1 : Int32)), (2, .int (128 : Int32)), (0, .float x)]) hx hb dX5_bitsOfFloat_30 rfl hl (by decide) rfl (fun ls hl => ?_)
  refine lv_iinc (v := 129) (k := 2) (lv' := [(2, .int (129 : Int32)), (1, .float (FP.fdiv (FP.fdiv x FP.fconst2) FP.fconst2)), (3, .int (1 : Int32)), (0, .float x)]) hx hb dX5_bitsOfFloat_31 hl rfl rfl (by decide) rfl (fun ls hl => ?_)
  refine lv_iinc (v := 2) (k := 2) (lv' := [(3, .int (2 : Int32)), (2, .int (129 : Int32)), (1, .float (FP.fdiv (FP.fdiv x FP.fconst2) FP.fconst2)), (0, .float x)]) hx hb dX5_bitsOfFloat_34 hl rfl rfl (by decide) rfl (fun ls hl => ?_)
  refine lv_goto (tgt := 15) hx hb dX5_bitsOfFloat_37 (by decide) ?_
  refine lv_iload_n hx hb dX5_bitsOfFloat_15 rfl (lv_at hl 0 rfl) ?_
  refine lv_bipush (v := 127) hx hb dX5_bitsOfFloat_16 (by decide) ?_
  refine nv_ge hx hb 2 127 40 (by omega) (by omega) dX5_bitsOfFloat_18 (by decide) (fun c => absurd c (by decide)) (fun c_6 => ?_)
  refine lv_fload_n hx hb dX5_bitsOfFloat_21 rfl (lv_at hl 2 rfl) ?_
  refine lv_fconst2 hx hb dX5_bitsOfFloat_22 ?_
  refine lv_fcmp hx hb dX5_bitsOfFloat_23 ?_
  refine lv_if_lt (tgt := 40) hx hb dX5_bitsOfFloat_24 (by decide) (fun c => absurd c hk24_2) (fun c_7 => ?_)
  refine lv_fload_n hx hb dX5_bitsOfFloat_27 rfl (lv_at hl 2 rfl) ?_
  refine lv_fconst2 hx hb dX5_bitsOfFloat_28 ?_
  refine lv_fdiv hx hb dX5_bitsOfFloat_29 hn29_2 ?_
  refine lv_fstore_n (lv' := [(1, .float (FP.fdiv (FP.fdiv (FP.fdiv x FP.fconst2) FP.fconst2) FP.fconst2)), (3, .int (2 : Int32)), (2, .int (129 : Int32)), (0, .float x)]) hx hb dX5_bitsOfFloat_30 rfl hl (by decide) rfl (fun ls hl => ?_)
  refine lv_iinc (v := 130) (k := 2) (lv' := [(2, .int (130 : Int32)), (1, .float (FP.fdiv (FP.fdiv (FP.fdiv x FP.fconst2) FP.fconst2) FP.fconst2)), (3, .int (2 : Int32)), (0, .float x)]) hx hb dX5_bitsOfFloat_31 hl rfl rfl (by decide) rfl (fun ls hl => ?_)
  refine lv_iinc (v := 3) (k := 2) (lv' := [(3, .int (3 : Int32)), (2, .int (130 : Int32)), (1, .float (FP.fdiv (FP.fdiv (FP.fdiv x FP.fconst2) FP.fconst2) FP.fconst2)), (0, .float x)]) hx hb dX5_bitsOfFloat_34 hl rfl rfl (by decide) rfl (fun ls hl => ?_)
  refine lv_goto (tgt := 15) hx hb dX5_bitsOfFloat_37 (by decide) ?_
  refine lv_iload_n hx hb dX5_bitsOfFloat_15 rfl (lv_at hl 0 rfl) ?_
  refine lv_bipush (v := 127) hx hb dX5_bitsOfFloat_16 (by decide) ?_
  refine nv_ge hx hb 3 127 40 (by omega) (by omega) dX5_bitsOfFloat_18 (by decide) (fun c => absurd c (by decide)) (fun c_8 => ?_)
  refine lv_fload_n hx hb dX5_bitsOfFloat_21 rfl (lv_at hl 2 rfl) ?_
  refine lv_fconst2 hx hb dX5_bitsOfFloat_22 ?_
  refine lv_fcmp hx hb dX5_bitsOfFloat_23 ?_
  refine lv_if_lt (tgt := 40) hx hb dX5_bitsOfFloat_24 (by decide) (fun c => absurd c hk24_3) (fun c_9 => ?_)
  refine lv_fload_n hx hb dX5_bitsOfFloat_27 rfl (lv_at hl 2 rfl) ?_
  refine lv_fconst2 hx hb dX5_bitsOfFloat_28 ?_
  refine lv_fdiv hx hb dX5_bitsOfFloat_29 hn29_3 ?_
  refine lv_fstore_n (lv' := [(1, .float (FP.fdiv (FP.fdiv (FP.fdiv (FP.fdiv x FP.fconst2) FP.fconst2) FP.fconst2) FP.fconst2)), (3, .int (3 : Int32)), (2, .int (130 : Int32)), (0, .float x)]) hx hb dX5_bitsOfFloat_30 rfl hl (by decide) rfl (fun ls hl => ?_)
  refine lv_iinc (v := 131) (k := 2) (lv' := [(2, .int (131 : Int32)), (1, .float (FP.fdiv (FP.fdiv (FP.fdiv (FP.fdiv x FP.fconst2) FP.fconst2) FP.fconst2) FP.fconst2)), (3, .int (3 : Int32)), (0, .float x)]) hx hb dX5_bitsOfFloat_31 hl rfl rfl (by decide) rfl (fun ls hl => ?_)
  refine lv_iinc (v := 4) (k := 2) (lv' := [(3, .int (4 : Int32)), (2, .int (131 : Int32)), (1, .float (FP.fdiv (FP.fdiv (FP.fdiv (FP.fdiv x FP.fconst2) FP.fconst2) FP.fconst2) FP.fconst2)), (0, .float x)]) hx hb dX5_bitsOfFloat_34 hl rfl rfl (by decide) rfl (fun ls hl => ?_)
  refine lv_goto (tgt := 15) hx hb dX5_bitsOfFloat_37 (by decide) ?_
  refine lv_iload_n hx hb dX5_bitsOfFloat_15 rfl (lv_at hl 0 rfl) ?_
  refine lv_bipush (v := 127) hx hb dX5_bitsOfFloat_16 (by decide) ?_
  refine nv_ge hx hb 4 127 40 (by omega) (by omega) dX5_bitsOfFloat_18 (by decide) (fun c => absurd c (by decide)) (fun c_10 => ?_)
  refine lv_fload_n hx hb dX5_bitsOfFloat_21 rfl (lv_at hl 2 rfl) ?_
  refine lv_fconst2 hx hb dX5_bitsOfFloat_22 ?_
  refine lv_fcmp hx hb dX5_bitsOfFloat_23 ?_
  refine lv_if_lt (tgt := 40) hx hb dX5_bitsOfFloat_24 (by decide) (fun c_11 => ?_) (fun c => absurd hk24_4 c)
  refine lv_iconst (v := 0) hx hb dX5_bitsOfFloat_40 (by decide) ?_
  refine lv_istore_n (lv' := [(3, .int (0 : Int32)), (2, .int (131 : Int32)), (1, .float (FP.fdiv (FP.fdiv (FP.fdiv (FP.fdiv x FP.fconst2) FP.fconst2) FP.fconst2) FP.fconst2)), (0, .float x)]) hx hb dX5_bitsOfFloat_41 rfl hl (by decide) rfl (fun ls hl => ?_)
  refine lv_iload_n hx hb dX5_bitsOfFloat_42 rfl (lv_at hl 0 rfl) ?_
  refine lv_bipush (v := 127) hx hb dX5_bitsOfFloat_43 (by decide) ?_
  refine nv_ge hx hb 0 127 67 (by omega) (by omega) dX5_bitsOfFloat_45 (by decide) (fun c => absurd c (by decide)) (fun c_12 => ?_)
  refine lv_fload_n hx hb dX5_bitsOfFloat_48 rfl (lv_at hl 2 rfl) ?_
  refine lv_fconst1 hx hb dX5_bitsOfFloat_49 ?_
  refine lv_fcmp hx hb dX5_bitsOfFloat_50 ?_
  refine lv_if_ge (tgt := 67) hx hb dX5_bitsOfFloat_51 (by decide) (fun c_13 => ?_) (fun c => absurd hk51_0 c)
  refine lv_fload_n hx hb dX5_bitsOfFloat_67 rfl (lv_at hl 2 rfl) ?_
  refine lv_fconst1 hx hb dX5_bitsOfFloat_68 ?_
  refine lv_fsub hx hb dX5_bitsOfFloat_69 hn69_0 ?_
  refine nv_ldcwf hx hb hown (hw _ aw_749) dX5_bitsOfFloat_70 ?_
  refine lv_fmul hx hb dX5_bitsOfFloat_73 hn73_0 ?_
  refine lv_f2i hx hb dX5_bitsOfFloat_74 ?_
  refine lv_istore_n (lv' := [(3, .int (FP.f2i (FP.fmul (FP.fsub (FP.fdiv (FP.fdiv (FP.fdiv (FP.fdiv x FP.fconst2) FP.fconst2) FP.fconst2) FP.fconst2) FP.fconst1) (1258291200 : UInt32)))), (2, .int (131 : Int32)), (1, .float (FP.fdiv (FP.fdiv (FP.fdiv (FP.fdiv x FP.fconst2) FP.fconst2) FP.fconst2) FP.fconst2)), (0, .float x)]) hx hb dX5_bitsOfFloat_75 rfl hl (by decide) rfl (fun ls hl => ?_)
  refine lv_iload_n hx hb dX5_bitsOfFloat_76 rfl (lv_at hl 1 rfl) ?_
  refine lv_bipush (v := 23) hx hb dX5_bitsOfFloat_77 (by decide) ?_
  refine lv_ishl hx hb dX5_bitsOfFloat_79 ?_
  refine lv_iload_n hx hb dX5_bitsOfFloat_80 rfl (lv_at hl 0 rfl) ?_
  refine lv_iadd hx hb dX5_bitsOfFloat_81 ?_
  rw [← hQQ]; exact W.iret hx hb hr (ct_end (F := (f_X5_bitsOfFloat_4 x)) (u := (((131 : Int32) <<< ((23 : Int32) &&& 31)) + (FP.f2i (FP.fmul (FP.fsub (FP.fdiv (FP.fdiv (FP.fdiv (FP.fdiv x FP.fconst2) FP.fconst2) FP.fconst2) FP.fconst2) FP.fconst1) (1258291200 : UInt32))))) (rf := (fun u => some (.int u))) (wf := (fun _ => [].flatten)) rfl rfl hP hD hS) hS.2.2 dX5_bitsOfFloat_82
def f_X5_bitsOfFloat_5 (x : UInt32) : Int32 := (((132 : Int32) <<< ((23 : Int32) &&& 31)) + (FP.f2i (FP.fmul (FP.fsub (FP.fdiv (FP.fdiv (FP.fdiv (FP.fdiv (FP.fdiv x FP.fconst2) FP.fconst2) FP.fconst2) FP.fconst2) FP.fconst2) FP.fconst1) (1258291200 : UInt32))))
set_option maxRecDepth 100000 in
set_option maxHeartbeats 4000000 in
theorem k_X5_bitsOfFloat_5 (l : Launch) (G : va_G) (cI cS cL : ClassId) (x : UInt32) (hk3_0 : 0 < (Op.cmpValue (FP.fcmp x FP.fconst0) .l)) (hk24_0 : ¬ ((Op.cmpValue (FP.fcmp x FP.fconst2) .l) < 0)) (hn29_0 : vf_n32 (FP.fdiv x FP.fconst2)) (hk24_1 : ¬ ((Op.cmpValue (FP.fcmp (FP.fdiv x FP.fconst2) FP.fconst2) .l) < 0)) (hn29_1 : vf_n32 (FP.fdiv (FP.fdiv x FP.fconst2) FP.fconst2)) (hk24_2 : ¬ ((Op.cmpValue (FP.fcmp (FP.fdiv (FP.fdiv x FP.fconst2) FP.fconst2) FP.fconst2) .l) < 0)) (hn29_2 : vf_n32 (FP.fdiv (FP.fdiv (FP.fdiv x FP.fconst2) FP.fconst2) FP.fconst2)) (hk24_3 : ¬ ((Op.cmpValue (FP.fcmp (FP.fdiv (FP.fdiv (FP.fdiv x FP.fconst2) FP.fconst2) FP.fconst2) FP.fconst2) .l) < 0)) (hn29_3 : vf_n32 (FP.fdiv (FP.fdiv (FP.fdiv (FP.fdiv x FP.fconst2) FP.fconst2) FP.fconst2) FP.fconst2)) (hk24_4 : ¬ ((Op.cmpValue (FP.fcmp (FP.fdiv (FP.fdiv (FP.fdiv (FP.fdiv x FP.fconst2) FP.fconst2) FP.fconst2) FP.fconst2) FP.fconst2) .l) < 0)) (hn29_4 : vf_n32 (FP.fdiv (FP.fdiv (FP.fdiv (FP.fdiv (FP.fdiv x FP.fconst2) FP.fconst2) FP.fconst2) FP.fconst2) FP.fconst2)) (hk24_5 : (Op.cmpValue (FP.fcmp (FP.fdiv (FP.fdiv (FP.fdiv (FP.fdiv (FP.fdiv x FP.fconst2) FP.fconst2) FP.fconst2) FP.fconst2) FP.fconst2) FP.fconst2) .l) < 0) (hk51_0 : 0 ≤ (Op.cmpValue (FP.fcmp (FP.fdiv (FP.fdiv (FP.fdiv (FP.fdiv (FP.fdiv x FP.fconst2) FP.fconst2) FP.fconst2) FP.fconst2) FP.fconst2) FP.fconst1) .g)) (hn69_0 : vf_n32 (FP.fsub (FP.fdiv (FP.fdiv (FP.fdiv (FP.fdiv (FP.fdiv x FP.fconst2) FP.fconst2) FP.fconst2) FP.fconst2) FP.fconst2) FP.fconst1)) (hn73_0 : vf_n32 (FP.fmul (FP.fsub (FP.fdiv (FP.fdiv (FP.fdiv (FP.fdiv (FP.fdiv x FP.fconst2) FP.fconst2) FP.fconst2) FP.fconst2) FP.fconst2) FP.fconst1) (1258291200 : UInt32))) : Ct l G (tyl cI cS cL) yX5_bitsOfFloat cX5_bitsOfFloat 4 (some (Jvm.ClassFile.FieldType.int)) 0 0 0 0 [.float x] [].flatten (f_X5_bitsOfFloat_5 x) (fun u => some (.int u)) (fun _ => [].flatten) := by
  refine Ct.of (by decide +kernel) (Nat.le_of_ble_eq_true rfl) ?_
  intro p e s m args below meth c A ls hx hb hr hml hw hown hlocks hin hK hN hP hD hS hA hl
  have hown : s.vm.findClass RX5 = some m.cls := hown
  have X : Cx p s m args c cX5_bitsOfFloat 4 RX5 G (tyl cI cS cL) := ⟨hx, hb, hml, hown, hw, hK, hN⟩
  have hP : va_P G classes [].flatten s.heap := hP
  have hl : lv_has ls 4 [(0, .float x)] := hl
  generalize hQQ : MQ below _ args s 0 0 A = QQ
  refine lv_fload_n hx hb dX5_bitsOfFloat_0 rfl (lv_at hl 0 rfl) ?_
  refine lv_fconst0 hx hb dX5_bitsOfFloat_1 ?_
  refine lv_fcmp hx hb dX5_bitsOfFloat_2 ?_
  refine lv_if_gt (tgt := 8) hx hb dX5_bitsOfFloat_3 (by decide) (fun c_1 => ?_) (fun c => absurd hk3_0 c)
  refine lv_fload_n hx hb dX5_bitsOfFloat_8 rfl (lv_at hl 0 rfl) ?_
  refine lv_fstore_n (lv' := [(1, .float x), (0, .float x)]) hx hb dX5_bitsOfFloat_9 rfl hl (by decide) rfl (fun ls hl => ?_)
  refine lv_bipush (v := 127) hx hb dX5_bitsOfFloat_10 (by decide) ?_
  refine lv_istore_n (lv' := [(2, .int (127 : Int32)), (1, .float x), (0, .float x)]) hx hb dX5_bitsOfFloat_12 rfl hl (by decide) rfl (fun ls hl => ?_)
  refine lv_iconst (v := 0) hx hb dX5_bitsOfFloat_13 (by decide) ?_
  refine lv_istore_n (lv' := [(3, .int (0 : Int32)), (2, .int (127 : Int32)), (1, .float x), (0, .float x)]) hx hb dX5_bitsOfFloat_14 rfl hl (by decide) rfl (fun ls hl => ?_)
  refine lv_iload_n hx hb dX5_bitsOfFloat_15 rfl (lv_at hl 0 rfl) ?_
  refine lv_bipush (v := 127) hx hb dX5_bitsOfFloat_16 (by decide) ?_
  refine nv_ge hx hb 0 127 40 (by omega) (by omega) dX5_bitsOfFloat_18 (by decide) (fun c => absurd c (by decide)) (fun c_2 => ?_)
  refine lv_fload_n hx hb dX5_bitsOfFloat_21 rfl (lv_at hl 2 rfl) ?_
  refine lv_fconst2 hx hb dX5_bitsOfFloat_22 ?_
  refine lv_fcmp hx hb dX5_bitsOfFloat_23 ?_
  refine lv_if_lt (tgt := 40) hx hb dX5_bitsOfFloat_24 (by decide) (fun c => absurd c hk24_0) (fun c_3 => ?_)
  refine lv_fload_n hx hb dX5_bitsOfFloat_27 rfl (lv_at hl 2 rfl) ?_
  refine lv_fconst2 hx hb dX5_bitsOfFloat_28 ?_
  refine lv_fdiv hx hb dX5_bitsOfFloat_29 hn29_0 ?_
  refine lv_fstore_n (lv' := [(1, .float (FP.fdiv x FP.fconst2)), (3, .int (0 : Int32)), (2, .int (127 : Int32)), (0, .float x)]) hx hb dX5_bitsOfFloat_30 rfl hl (by decide) rfl (fun ls hl => ?_)
  refine lv_iinc (v := 128) (k := 2) (lv' := [(2, .int (128 : Int32)), (1, .float (FP.fdiv x FP.fconst2)), (3, .int (0 : Int32)), (0, .float x)]) hx hb dX5_bitsOfFloat_31 hl rfl rfl (by decide) rfl (fun ls hl => ?_)
  refine lv_iinc (v := 1) (k := 2) (lv' := [(3, .int (1 : Int32)), (2, .int (128 : Int32)), (1, .float (FP.fdiv x FP.fconst2)), (0, .float x)]) hx hb dX5_bitsOfFloat_34 hl rfl rfl (by decide) rfl (fun ls hl => ?_)
  refine lv_goto (tgt := 15) hx hb dX5_bitsOfFloat_37 (by decide) ?_
  refine lv_iload_n hx hb dX5_bitsOfFloat_15 rfl (lv_at hl 0 rfl) ?_
  refine lv_bipush (v := 127) hx hb dX5_bitsOfFloat_16 (by decide) ?_
  refine nv_ge hx hb 1 127 40 (by omega) (by omega) dX5_bitsOfFloat_18 (by decide) (fun c => absurd c (by decide)) (fun c_4 => ?_)
  refine lv_fload_n hx hb dX5_bitsOfFloat_21 rfl (lv_at hl 2 rfl) ?_
  refine lv_fconst2 hx hb dX5_bitsOfFloat_22 ?_
  refine lv_fcmp hx hb dX5_bitsOfFloat_23 ?_
  refine lv_if_lt (tgt := 40) hx hb dX5_bitsOfFloat_24 (by decide) (fun c => absurd c hk24_1) (fun c_5 => ?_)
  refine lv_fload_n hx hb dX5_bitsOfFloat_27 rfl (lv_at hl 2 rfl) ?_
  refine lv_fconst2 hx hb dX5_bitsOfFloat_28 ?_
  refine lv_fdiv hx hb dX5_bitsOfFloat_29 hn29_1 ?_
  refine lv_fstore_n (lv' := [(1, .float (FP.fdiv (FP.fdiv x FP.fconst2) FP.fconst2)), (3, .int (1 : Int32)), (2, .int (128 : Int32)), (0, .float x)]) hx hb dX5_bitsOfFloat_30 rfl hl (by decide) rfl (fun ls hl => ?_)
  refine lv_iinc (v := 129) (k := 2) (lv' := [(2, .int (129 : Int32)), (1, .float (FP.fdiv (FP.fdiv x FP.fconst2) FP.fconst2)), (3, .int (1 : Int32)), (0, .float x)]) hx hb dX5_bitsOfFloat_31 hl rfl rfl (by decide) rfl (fun ls hl => ?_)
  refine lv_iinc (v := 2) (k := 2) (lv' := [(3, .int (2 : Int32)), (2, .int (129 : Int32)), (1, .float (FP.fdiv (FP.fdiv x FP.fconst2) FP.fconst2)), (0, .float x)]) hx hb dX5_bitsOfFloat_34 hl rfl rfl (by decide) rfl (fun ls hl => ?_)
  refine lv_goto (tgt := 15) hx hb dX5_bitsOfFloat_37 (by decide) ?_
  refine lv_iload_n hx hb dX5_bitsOfFloat_15 rfl (lv_at hl 0 rfl) ?_
  refine lv_bipush (v := 127) hx hb dX5_bitsOfFloat_16 (by decide) ?_
  refine nv_ge hx hb 2 127 40 (by omega) (by omega) dX5_bitsOfFloat_18 (by decide) (fun c => absurd c (by decide)) (fun c_6 => ?_)
  refine lv_fload_n hx hb dX5_bitsOfFloat_21 rfl (lv_at hl 2 rfl) ?_
  refine lv_fconst2 hx hb dX5_bitsOfFloat_22 ?_
  refine lv_fcmp hx hb dX5_bitsOfFloat_23 ?_
  refine lv_if_lt (tgt := 40) hx hb dX5_bitsOfFloat_24 (by decide) (fun c => absurd c hk24_2) (fun c_7 => ?_)
  refine lv_fload_n hx hb dX5_bitsOfFloat_27 rfl (lv_at hl 2 rfl) ?_
  refine lv_fconst2 hx hb dX5_bitsOfFloat_28 ?_
  refine lv_fdiv hx hb dX5_bitsOfFloat_29 hn29_2 ?_
  refine lv_fstore_n (lv' := [(1, .float (FP.fdiv (FP.fdiv (FP.fdiv x FP.fconst2) FP.fconst2) FP.fconst2)), (3, .int (2 : Int32)), (2, .int (129 : Int32)), (0, .float x)]) hx hb dX5_bitsOfFloat_30 rfl hl (by decide) rfl (fun ls hl => ?_)
  refine lv_iinc (v := 130) (k := 2) (lv' := [(2, .int (130 : Int32)), (1, .float (FP.fdiv (FP.fdiv (FP.fdiv x FP.fconst2) FP.fconst2) FP.fconst2)), (3, .int (2 : Int32)), (0, .float x)]) hx hb dX5_bitsOfFloat_31 hl rfl rfl (by decide) rfl (fun ls hl => ?_)
  refine lv_iinc (v := 3) (k := 2) (lv' := [(3, .int (3 : Int32)), (2, .int (130 : Int32)), (1, .float (FP.fdiv (FP.fdiv (FP.fdiv x FP.fconst2) FP.fconst2) FP.fconst2)), (0, .float x)]) hx hb dX5_bitsOfFloat_34 hl rfl rfl (by decide) rfl (fun ls hl => ?_)
  refine lv_goto (tgt := 15) hx hb dX5_bitsOfFloat_37 (by decide) ?_
  refine lv_iload_n hx hb dX5_bitsOfFloat_15 rfl (lv_at hl 0 rfl) ?_
  refine lv_bipush (v := 127) hx hb dX5_bitsOfFloat_16 (by decide) ?_
  refine nv_ge hx hb 3 127 40 (by omega) (by omega) dX5_bitsOfFloat_18 (by decide) (fun c => absurd c (by decide)) (fun c_8 => ?_)
  refine lv_fload_n hx hb dX5_bitsOfFloat_21 rfl (lv_at hl 2 rfl) ?_
  refine lv_fconst2 hx hb dX5_bitsOfFloat_22 ?_
  refine lv_fcmp hx hb dX5_bitsOfFloat_23 ?_
  refine lv_if_lt (tgt := 40) hx hb dX5_bitsOfFloat_24 (by decide) (fun c => absurd c hk24_3) (fun c_9 => ?_)
  refine lv_fload_n hx hb dX5_bitsOfFloat_27 rfl (lv_at hl 2 rfl) ?_
  refine lv_fconst2 hx hb dX5_bitsOfFloat_28 ?_
  refine lv_fdiv hx hb dX5_bitsOfFloat_29 hn29_3 ?_
  refine lv_fstore_n (lv' := [(1, .float (FP.fdiv (FP.fdiv (FP.fdiv (FP.fdiv x FP.fconst2) FP.fconst2) FP.fconst2) FP.fconst2)), (3, .int (3 : Int32)), (2, .int (130 : Int32)), (0, .float x)]) hx hb dX5_bitsOfFloat_30 rfl hl (by decide) rfl (fun ls hl => ?_)
  refine lv_iinc (v := 131) (k := 2) (lv' := [(2, .int (131 : Int32)), (1, .float (FP.fdiv (FP.fdiv (FP.fdiv (FP.fdiv x FP.fconst2) FP.fconst2) FP.fconst2) FP.fconst2)), (3, .int (3 : Int32)), (0, .float x)]) hx hb dX5_bitsOfFloat_31 hl rfl rfl (by decide) rfl (fun ls hl => ?_)
  refine lv_iinc (v := 4) (k := 2) (lv' := [(3, .int (4 : Int32)), (2, .int (131 : Int32)), (1, .float (FP.fdiv (FP.fdiv (FP.fdiv (FP.fdiv x FP.fconst2) FP.fconst2) FP.fconst2) FP.fconst2)), (0, .float x)]) hx hb dX5_bitsOfFloat_34 hl rfl rfl (by decide) rfl (fun ls hl => ?_)
  refine lv_goto (tgt := 15) hx hb dX5_bitsOfFloat_37 (by decide) ?_
  refine lv_iload_n hx hb dX5_bitsOfFloat_15 rfl (lv_at hl 0 rfl) ?_
  refine lv_bipush (v := 127) hx hb dX5_bitsOfFloat_16 (by decide) ?_
  refine nv_ge hx hb 4 127 40 (by omega) (by omega) dX5_bitsOfFloat_18 (by decide) (fun c => absurd c (by decide)) (fun c_10 => ?_)
  refine lv_fload_n hx hb dX5_bitsOfFloat_21 rfl (lv_at hl 2 rfl) ?_
  refine lv_fconst2 hx hb dX5_bitsOfFloat_22 ?_
  refine lv_fcmp hx hb dX5_bitsOfFloat_23 ?_
  refine lv_if_lt (tgt := 40) hx hb dX5_bitsOfFloat_24 (by decide) (fun c => absurd c hk24_4) (fun c_11 => ?_)
  refine lv_fload_n hx hb dX5_bitsOfFloat_27 rfl (lv_at hl 2 rfl) ?_
  refine lv_fconst2 hx hb dX5_bitsOfFloat_28 ?_
  refine lv_fdiv hx hb dX5_bitsOfFloat_29 hn29_4 ?_
  refine lv_fstore_n (lv' := [(1, .float (FP.fdiv (FP.fdiv (FP.fdiv (FP.fdiv (FP.fdiv x FP.fconst2) FP.fconst2) FP.fconst2) FP.fconst2) FP.fconst2)), (3, .int (4 : Int32)), (2, .int (131 : Int32)), (0, .float x)]) hx hb dX5_bitsOfFloat_30 rfl hl (by decide) rfl (fun ls hl => ?_)
  refine lv_iinc (v := 132) (k := 2) (lv' := [(2, .int (132 : Int32)), (1, .float (FP.fdiv (FP.fdiv (FP.fdiv (FP.fdiv (FP.fdiv x FP.fconst2) FP.fconst2) FP.fconst2) FP.fconst2) FP.fconst2)), (3, .int (4 : Int32)), (0, .float x)]) hx hb dX5_bitsOfFloat_31 hl rfl rfl (by decide) rfl (fun ls hl => ?_)
  refine lv_iinc (v := 5) (k := 2) (lv' := [(3, .int (5 : Int32)), (2, .int (132 : Int32)), (1, .float (FP.fdiv (FP.fdiv (FP.fdiv (FP.fdiv (FP.fdiv x FP.fconst2) FP.fconst2) FP.fconst2) FP.fconst2) FP.fconst2)), (0, .float x)]) hx hb dX5_bitsOfFloat_34 hl rfl rfl (by decide) rfl (fun ls hl => ?_)
  refine lv_goto (tgt := 15) hx hb dX5_bitsOfFloat_37 (by decide) ?_
  refine lv_iload_n hx hb dX5_bitsOfFloat_15 rfl (lv_at hl 0 rfl) ?_
  refine lv_bipush (v := 127) hx hb dX5_bitsOfFloat_16 (by decide) ?_
  refine nv_ge hx hb 5 127 40 (by omega) (by omega) dX5_bitsOfFloat_18 (by decide) (fun c => absurd c (by decide)) (fun c_12 => ?_)
  refine lv_fload_n hx hb dX5_bitsOfFloat_21 rfl (lv_at hl 2 rfl) ?_
  refine lv_fconst2 hx hb dX5_bitsOfFloat_22 ?_
  refine lv_fcmp hx hb dX5_bitsOfFloat_23 ?_
  refine lv_if_lt (tgt := 40) hx hb dX5_bitsOfFloat_24 (by decide) (fun c_13 => ?_) (fun c => absurd hk24_5 c)
  refine lv_iconst (v := 0) hx hb dX5_bitsOfFloat_40 (by decide) ?_
  refine lv_istore_n (lv' := [(3, .int (0 : Int32)), (2, .int (132 : Int32)), (1, .float (FP.fdiv (FP.fdiv (FP.fdiv (FP.fdiv (FP.fdiv x FP.fconst2) FP.fconst2) FP.fconst2) FP.fconst2) FP.fconst2)), (0, .float x)]) hx hb dX5_bitsOfFloat_41 rfl hl (by decide) rfl (fun ls hl => ?_)
  refine lv_iload_n hx hb dX5_bitsOfFloat_42 rfl (lv_at hl 0 rfl) ?_
  refine lv_bipush (v := 127) hx hb dX5_bitsOfFloat_43 (by decide) ?_
  refine nv_ge hx hb 0 127 67 (by omega) (by omega) dX5_bitsOfFloat_45 (by decide) (fun c => absurd c (by decide)) (fun c_14 => ?_)
  refine lv_fload_n hx hb dX5_bitsOfFloat_48 rfl (lv_at hl 2 rfl) ?_
  refine lv_fconst1 hx hb dX5_bitsOfFloat_49 ?_
  refine lv_fcmp hx hb dX5_bitsOfFloat_50 ?_
  refine lv_if_ge (tgt := 67) hx hb dX5_bitsOfFloat_51 (by decide) (fun c_15 => ?_) (fun c => absurd hk51_0 c)
  refine lv_fload_n hx hb dX5_bitsOfFloat_67 rfl (lv_at hl 2 rfl) ?_
  refine lv_fconst1 hx hb dX5_bitsOfFloat_68 ?_
  refine lv_fsub hx hb dX5_bitsOfFloat_69 hn69_0 ?_
  refine nv_ldcwf hx hb hown (hw _ aw_749) dX5_bitsOfFloat_70 ?_
  refine lv_fmul hx hb dX5_bitsOfFloat_73 hn73_0 ?_
  refine lv_f2i hx hb dX5_bitsOfFloat_74 ?_
  refine lv_istore_n (lv' := [(3, .int (FP.f2i (FP.fmul (FP.fsub (FP.fdiv (FP.fdiv (FP.fdiv (FP.fdiv (FP.fdiv x FP.fconst2) FP.fconst2) FP.fconst2) FP.fconst2) FP.fconst2) FP.fconst1) (1258291200 : UInt32)))), (2, .int (132 : Int32)), (1, .float (FP.fdiv (FP.fdiv (FP.fdiv (FP.fdiv (FP.fdiv x FP.fconst2) FP.fconst2) FP.fconst2) FP.fconst2) FP.fconst2)), (0, .float x)]) hx hb dX5_bitsOfFloat_75 rfl hl (by decide) rfl (fun ls hl => ?_)
  refine lv_iload_n hx hb dX5_bitsOfFloat_76 rfl (lv_at hl 1 rfl) ?_
  refine lv_bipush (v := 23) hx hb dX5_bitsOfFloat_77 (by decide) ?_
  refine lv_ishl hx hb dX5_bitsOfFloat_79 ?_
  refine lv_iload_n hx hb dX5_bitsOfFloat_80 rfl (lv_at hl 0 rfl) ?_
  refine lv_iadd hx hb dX5_bitsOfFloat_81 ?_
  rw [← hQQ]; exact W.iret hx hb hr (ct_end (F := (f_X5_bitsOfFloat_5 x)) (u := (((132 : Int32) <<< ((23 : Int32) &&& 31)) + (FP.f2i (FP.fmul (FP.fsub (FP.fdiv (FP.fdiv (FP.fdiv (FP.fdiv (FP.fdiv x FP.fconst2) FP.fconst2) FP.fconst2) FP.fconst2) FP.fconst2) FP.fconst1) (1258291200 : UInt32))))) (rf := (fun u => some (.int u))) (wf := (fun _ => [].flatten)) rfl rfl hP hD hS) hS.2.2 dX5_bitsOfFloat_82
def f_X5_bitsOfFloat_6 (x : UInt32) : Int32 := (((133 : Int32) <<< ((23 : Int32) &&& 31)) + (FP.f2i (FP.fmul (FP.fsub (FP.fdiv (FP.fdiv (FP.fdiv (FP.fdiv (FP.fdiv (FP.fdiv x FP.fconst2) FP.fconst2) FP.fconst2) FP.fconst2) FP.fconst2) FP.fconst2) FP.fconst1) (1258291200 : UInt32))))
set_option maxRecDepth 100000 in
set_option maxHeartbeats 4000000 in
theorem k_X5_bitsOfFloat_6 (l : Launch) (G : va_G) (cI cS cL : ClassId) (x : UInt32) (hk3_0 : 0 < (Op.cmpValue (FP.fcmp x FP.fconst0) .l)) (hk24_0 : ¬ ((Op.cmpValue (FP.fcmp x FP.fconst2) .l) < 0)) (hn29_0 : vf_n32 (FP.fdiv x FP.fconst2)) (hk24_1 : ¬ ((Op.cmpValue (FP.fcmp (FP.fdiv x FP.fconst2) FP.fconst2) .l) < 0)) (hn29_1 : vf_n32 (FP.fdiv (FP.fdiv x FP.fconst2) FP.fconst2)) (hk24_2 : ¬ ((Op.cmpValue (FP.fcmp (FP.fdiv (FP.fdiv x FP.fconst2) FP.fconst2) FP.fconst2) .l) < 0)) (hn29_2 : vf_n32 (FP.fdiv (FP.fdiv (FP.fdiv x FP.fconst2) FP.fconst2) FP.fconst2)) (hk24_3 : ¬ ((Op.cmpValue (FP.fcmp (FP.fdiv (FP.fdiv (FP.fdiv x FP.fconst2) FP.fconst2) FP.fconst2) FP.fconst2) .l) < 0)) (hn29_3 : vf_n32 (FP.fdiv (FP.fdiv (FP.fdiv (FP.fdiv x FP.fconst2) FP.fconst2) FP.fconst2) FP.fconst2)) (hk24_4 : ¬ ((Op.cmpValue (FP.fcmp (FP.fdiv (FP.fdiv (FP.fdiv (FP.fdiv x FP.fconst2) FP.fconst2) FP.fconst2) FP.fconst2) FP.fconst2) .l) < 0)) (hn29_4 : vf_n32 (FP.fdiv (FP.fdiv (FP.fdiv (FP.fdiv (FP.fdiv x FP.fconst2) FP.fconst2) FP.fconst2) FP.fconst2) FP.fconst2)) (hk24_5 : ¬ ((Op.cmpValue (FP.fcmp (FP.fdiv (FP.fdiv (FP.fdiv (FP.fdiv (FP.fdiv x FP.fconst2) FP.fconst2) FP.fconst2) FP.fconst2) FP.fconst2) FP.fconst2) .l) < 0)) (hn29_5 : vf_n32 (FP.fdiv (FP.fdiv (FP.fdiv (FP.fdiv (FP.fdiv (FP.fdiv x FP.fconst2) FP.fconst2) FP.fconst2) FP.fconst2) FP.fconst2) FP.fconst2)) (hk24_6 : (Op.cmpValue (FP.fcmp (FP.fdiv (FP.fdiv (FP.fdiv (FP.fdiv (FP.fdiv (FP.fdiv x FP.fconst2) FP.fconst2) FP.fconst2) FP.fconst2) FP.fconst2) FP.fconst2) FP.fconst2) .l) < 0) (hk51_0 : 0 ≤ (Op.cmpValue (FP.fcmp (FP.fdiv (FP.fdiv (FP.fdiv (FP.fdiv (FP.fdiv (FP.fdiv x FP.fconst2) FP.fconst2) FP.fconst2) FP.fconst2) FP.fconst2) FP.fconst2) FP.fconst1) .g)) (hn69_0 : vf_n32 (FP.fsub (FP.fdiv (FP.fdiv (FP.fdiv (FP.fdiv (FP.fdiv (FP.fdiv x FP.fconst2) FP.fconst2) FP.fconst2) FP.fconst2) FP.fconst2) FP.fconst2) FP.fconst1)) (hn73_0 : vf_n32 (FP.fmul (FP.fsub (FP.fdiv (FP.fdiv (FP.fdiv (FP.fdiv (FP.fdiv (FP.fdiv x FP.fconst2) FP.fconst2) FP.fconst2) FP.fconst2) FP.fconst2) FP.fconst2) FP.fconst1) (1258291200 : UInt32))) : Ct l G (tyl cI cS cL) yX5_bitsOfFloat cX5_bitsOfFloat 4 (some (Jvm.ClassFile.FieldType.int)) 0 0 0 0 [.float x] [].flatten (f_X5_bitsOfFloat_6 x) (fun u => some (.int u)) (fun _ => [].flatten) := by
  refine Ct.of (by decide +kernel) (Nat.le_of_ble_eq_true rfl) ?_
  intro p e s m args below meth c A ls hx hb hr hml hw hown hlocks hin hK hN hP hD hS hA hl
  have hown : s.vm.findClass RX5 = some m.cls := hown
  have X : Cx p s m args c cX5_bitsOfFloat 4 RX5 G (tyl cI cS cL) := ⟨hx, hb, hml, hown, hw, hK, hN⟩
  have hP : va_P G classes [].flatten s.heap := hP
  have hl : lv_has ls 4 [(0, .float x)] := hl
  generalize hQQ : MQ below _ args s 0 0 A = QQ
  refine lv_fload_n hx hb dX5_bitsOfFloat_0 rfl (lv_at hl 0 rfl) ?_
  refine lv_fconst0 hx hb dX5_bitsOfFloat_1 ?_
  refine lv_fcmp hx hb dX5_bitsOfFloat_2 ?_
  refine lv_if_gt (tgt := 8) hx hb dX5_bitsOfFloat_3 (by decide) (fun c_1 => ?_) (fun c => absurd hk3_0 c)
  refine lv_fload_n hx hb dX5_bitsOfFloat_8 rfl (lv_at hl 0 rfl) ?_
  refine lv_fstore_n (lv' := [(1, .float x), (0, .float x)]) hx hb dX5_bitsOfFloat_9 rfl hl (by decide) rfl (fun ls hl => ?_)
  refine lv_bipush (v := 127) hx hb dX5_bitsOfFloat_10 (by decide) ?_
  refine lv_istore_n (lv' := [(2, .int (127 : Int32)), (1, .float x), (0, .float x)]) hx hb dX5_bitsOfFloat_12 rfl hl (by decide) rfl (fun ls hl => ?_)
  refine lv_iconst (v := 0) hx hb dX5_bitsOfFloat_13 (by decide) ?_
  refine lv_istore_n (lv' := [(3, .int (0 : Int32)), (2, .int (127 : Int32)), (1, .float x), (0, .float x)]) hx hb dX5_bitsOfFloat_14 rfl hl (by decide) rfl (fun ls hl => ?_)
  refine lv_iload_n hx hb dX5_bitsOfFloat_15 rfl (lv_at hl 0 rfl) ?_
  refine lv_bipush (v := 127) hx hb dX5_bitsOfFloat_16 (by decide) ?_
  refine nv_ge hx hb 0 127 40 (by omega) (by omega) dX5_bitsOfFloat_18 (by decide) (fun c => absurd c (by decide)) (fun c_2 => ?_)
  refine lv_fload_n hx hb dX5_bitsOfFloat_21 rfl (lv_at hl 2 rfl) ?_
  refine lv_fconst2 hx hb dX5_bitsOfFloat_22 ?_
  refine lv_fcmp hx hb dX5_bitsOfFloat_23 ?_
  refine lv_if_lt (tgt := 40) hx hb dX5_bitsOfFloat_24 (by decide) (fun c => absurd c hk24_0) (fun c_3 => ?_)
  refine lv_fload_n hx hb dX5_bitsOfFloat_27 rfl (lv_at hl 2 rfl) ?_
  refine lv_fconst2 hx hb dX5_bitsOfFloat_28 ?_
  refine lv_fdiv hx hb dX5_bitsOfFloat_29 hn29_0 ?_
  refine lv_fstore_n (lv' := [(1, .float (FP.fdiv x FP.fconst2)), (3, .int (0 : Int32)), (2, .int (127 : Int32)), (0, .float x)]) hx hb dX5_bitsOfFloat_30 rfl hl (by decide) rfl (fun ls hl => ?_)
  refine lv_iinc (v := 128) (k := 2) (lv' := [(2, .int (128 : Int32)), (1, .float (FP.fdiv x FP.fconst2)), (3, .int (0 : Int32)), (0, .float x)]) hx hb dX5_bitsOfFloat_31 hl rfl rfl (by decide) rfl (fun ls hl => ?_)
  refine lv_iinc (v := 1) (k := 2) (lv' := [(3, .int (1 : Int32)), (2, .int (128 : Int32)), (1, .float (FP.fdiv x FP.fconst2)), (0, .float x)]) hx hb dX5_bitsOfFloat_34 hl rfl rfl (by decide) rfl (fun ls hl => ?_)
  refine lv_goto (tgt := 15) hx hb dX5_bitsOfFloat_37 (by decide) ?_
  refine lv_iload_n hx hb dX5_bitsOfFloat_15 rfl (lv_at hl 0 rfl) ?_
  refine lv_bipush (v := 127) hx hb dX5_bitsOfFloat_16 (by decide) ?_
  refine nv_ge hx hb 1 127 40 (by omega) (by omega) dX5_bitsOfFloat_18 (by decide) (fun c => absurd c (by decide)) (fun c_4 => ?_)
  refine lv_fload_n hx hb dX5_bitsOfFloat_21 rfl (lv_at hl 2 rfl) ?_
  refine lv_fconst2 hx hb dX5_bitsOfFloat_22 ?_
  refine lv_fcmp hx hb dX5_bitsOfFloat_23 ?_
  refine lv_if_lt (tgt := 40) hx hb dX5_bitsOfFloat_24 (by decide) (fun c => absurd c hk24_1) (fun c_5 => ?_)
  refine lv_fload_n hx hb dX5_bitsOfFloat_27 rfl (lv_at hl 2 rfl) ?_
  refine lv_fconst2 hx hb dX5_bitsOfFloat_28 ?_
  refine lv_fdiv hx hb dX5_bitsOfFloat_29 hn29_1 ?_
  refine lv_fstore_n (lv' := [(1, .float (FP.fdiv (FP.fdiv x FP.fconst2) FP.fconst2)), (3, .int (1 : Int32)), (2, .int (128 : Int32)), (0, .float x)]) hx hb dX5_bitsOfFloat_30 rfl hl (by decide) rfl (fun ls hl => ?_)
  refine lv_iinc (v := 129) (k := 2) (lv' := [(2, .int (129 : Int32)), (1, .float (FP.fdiv (FP.fdiv x FP.fconst2) FP.fconst2)), (3, .int (1 : Int32)), (0, .float x)]) hx hb dX5_bitsOfFloat_31 hl rfl rfl (by decide) rfl (fun ls hl => ?_)
  refine lv_iinc (v := 2) (k := 2) (lv' := [(3, .int (2 : Int32)), (2, .int (129 : Int32)), (1, .float (FP.fdiv (FP.fdiv x FP.fconst2) FP.fconst2)), (0, .float x)]) hx hb dX5_bitsOfFloat_34 hl rfl rfl (by decide) rfl (fun ls hl => ?_)
  refine lv_goto (tgt := 15) hx hb dX5_bitsOfFloat_37 (by decide) ?_
  refine lv_iload_n hx hb dX5_bitsOfFloat_15 rfl (lv_at hl 0 rfl) ?_
  refine lv_bipush (v := 127) hx hb dX5_bitsOfFloat_16 (by decide) ?_
  refine nv_ge hx hb 2 127 40 (by omega) (by omega) dX5_bitsOfFloat_18 (by decide) (fun c => absurd c (by decide)) (fun c_6 => ?_)
  refine lv_fload_n hx hb dX5_bitsOfFloat_21 rfl (lv_at hl 2 rfl) ?_
  refine lv_fconst2 hx hb dX5_bitsOfFloat_22 ?_
  refine lv_fcmp hx hb dX5_bitsOfFloat_23 ?_
  refine lv_if_lt (tgt := 40) hx hb dX5_bitsOfFloat_24 (by decide) (fun c => absurd c hk24_2) (fun c_7 => ?_)
  refine lv_fload_n hx hb dX5_bitsOfFloat_27 rfl (lv_at hl 2 rfl) ?_
  refine lv_fconst2 hx hb dX5_bitsOfFloat_28 ?_
  refine lv_fdiv hx hb dX5_bitsOfFloat_29 hn29_2 ?_
  refine lv_fstore_n (lv' := [(1, .float (FP.fdiv (FP.fdiv (FP.fdiv x FP.fconst2) FP.fconst2) FP.fconst2)), (3, .int (2 : Int32)), (2, .int (129 : Int32)), (0, .float x)]) hx hb dX5_bitsOfFloat_30 rfl hl (by decide) rfl (fun ls hl => ?_)
  refine lv_iinc (v := 130) (k := 2) (lv' := [(2, .int (130 : Int32)), (1, .float (FP.fdiv (FP.fdiv (FP.fdiv x FP.fconst2) FP.fconst2) FP.fconst2)), (3, .int (2 : Int32)), (0, .float x)]) hx hb dX5_bitsOfFloat_31 hl rfl rfl (by decide) rfl (fun ls hl => ?_)
  refine lv_iinc (v := 3) (k := 2) (lv' := [(3, .int (3 : Int32)), (2, .int (130 : Int32)), (1, .float (FP.fdiv (FP.fdiv (FP.fdiv x FP.fconst2) FP.fconst2) FP.fconst2)), (0, .float x)]) hx hb dX5_bitsOfFloat_34 hl rfl rfl (by decide) rfl (fun ls hl => ?_)
  refine lv_goto (tgt := 15) hx hb dX5_bitsOfFloat_37 (by decide) ?_
  refine lv_iload_n hx hb dX5_bitsOfFloat_15 rfl (lv_at hl 0 rfl) ?_
  refine lv_bipush (v := 127) hx hb dX5_bitsOfFloat_16 (by decide) ?_
  refine nv_ge hx hb 3 127 40 (by omega) (by omega) dX5_bitsOfFloat_18 (by decide) (fun c => absurd c (by decide)) (fun c_8 => ?_)
  refine lv_fload_n hx hb dX5_bitsOfFloat_21 rfl (lv_at hl 2 rfl) ?_
  refine lv_fconst2 hx hb dX5_bitsOfFloat_22 ?_
  refine lv_fcmp hx hb dX5_bitsOfFloat_23 ?_
  refine lv_if_lt (tgt := 40) hx hb dX5_bitsOfFloat_24 (by decide) (fun c => absurd c hk24_3) (fun c_9 => ?_)
  refine lv_fload_n hx hb dX5_bitsOfFloat_27 rfl (lv_at hl 2 rfl) ?_
  refine lv_fconst2 hx hb dX5_bitsOfFloat_28 ?_
  refine lv_fdiv hx hb dX5_bitsOfFloat_29 hn29_3 ?_
  refine lv_fstore_n (lv' := [(1, .float (FP.fdiv (FP.fdiv (FP.fdiv (FP.fdiv x FP.fconst2) FP.fconst2) FP.fconst2) FP.fconst2)), (3, .int (3 : Int32)), (2, .int (130 : Int32)), (0, .float x)]) hx hb dX5_bitsOfFloat_30 rfl hl (by decide) rfl (fun ls hl => ?_)
  refine lv_iinc (v := 131) (k := 2) (lv' := [(2, .int (131 : Int32)), (1, .float (FP.fdiv (FP.fdiv (FP.fdiv (FP.fdiv x FP.fconst2) FP.fconst2) FP.fconst2) FP.fconst2)), (3, .int (3 : Int32)), (0, .float x)]) hx hb dX5_bitsOfFloat_31 hl rfl rfl (by decide) rfl (fun ls hl => ?_)
  refine lv_iinc (v := 4) (k := 2) (lv' := [(3, .int (4 : Int32)), (2, .int (131 : Int32)), (1, .float (FP.fdiv (FP.fdiv (FP.fdiv (FP.fdiv x FP.fconst2) FP.fconst2) FP.fconst2) FP.fconst2)), (0, .float x)]) hx hb dX5_bitsOfFloat_34 hl rfl rfl (by decide) rfl (fun ls hl => ?_)
  refine lv_goto (tgt := 15) hx hb dX5_bitsOfFloat_37 (by decide) ?_
  refine lv_iload_n hx hb dX5_bitsOfFloat_15 rfl (lv_at hl 0 rfl) ?_
  refine lv_bipush (v := 127) hx hb dX5_bitsOfFloat_16 (by decide) ?_
  refine nv_ge hx hb 4 127 40 (by omega) (by omega) dX5_bitsOfFloat_18 (by decide) (fun c => absurd c (by decide)) (fun c_10 => ?_)
  refine lv_fload_n hx hb dX5_bitsOfFloat_21 rfl (lv_at hl 2 rfl) ?_
  refine lv_fconst2 hx hb dX5_bitsOfFloat_22 ?_
  refine lv_fcmp hx hb dX5_bitsOfFloat_23 ?_
  refine lv_if_lt (tgt := 40) hx hb dX5_bitsOfFloat_24 (by decide) (fun c => absurd c hk24_4) (fun c_11 => ?_)
  refine lv_fload_n hx hb dX5_bitsOfFloat_27 rfl (lv_at hl 2 rfl) ?_
  refine lv_fconst2 hx hb dX5_bitsOfFloat_28 ?_
  refine lv_fdiv hx hb dX5_bitsOfFloat_29 hn29_4 ?_
  refine lv_fstore_n (lv' := [(1, .float (FP.fdiv (FP.fdiv (FP.fdiv (FP.fdiv (FP.fdiv x FP.fconst2) FP.fconst2) FP.fconst2) FP.fconst2) FP.fconst2)), (3, .int (4 : Int32)), (2, .int (131 : Int32)), (0, .float x)]) hx hb dX5_bitsOfFloat_30 rfl hl (by decide) rfl (fun ls hl => ?_)
  refine lv_iinc (v := 132) (k := 2) (lv' := [(2, .int (132 : Int32)), (1, .float (FP.fdiv (FP.fdiv (FP.fdiv (FP.fdiv (FP.fdiv x FP.fconst2) FP.fconst2) FP.fconst2) FP.fconst2) FP.fconst2)), (3, .int (4 : Int32)), (0, .float x)]) hx hb dX5_bitsOfFloat_31 hl rfl rfl (by decide) rfl (fun ls hl => ?_)
  refine lv_iinc (v := 5) (k := 2) (lv' := [(3, .int (5 : Int32)), (2, .int (132 : Int32)), (1, .float (FP.fdiv (FP.fdiv (FP.fdiv (FP.fdiv (FP.fdiv x FP.fconst2) FP.fconst2) FP.fconst2) FP.fconst2) FP.fconst2)), (0, .float x)]) hx hb dX5_bitsOfFloat_34 hl rfl rfl (by decide) rfl (fun ls hl => ?_)
  refine lv_goto (tgt := 15) hx hb dX5_bitsOfFloat_37 (by decide) ?_
  refine lv_iload_n hx hb dX5_bitsOfFloat_15 rfl (lv_at hl 0 rfl) ?_
  refine lv_bipush (v := 127) hx hb dX5_bitsOfFloat_16 (by decide) ?_
  refine nv_ge hx hb 5 127 40 (by omega) (by omega) dX5_bitsOfFloat_18 (by decide) (fun c => absurd c (by decide)) (fun c_12 => ?_)
  refine lv_fload_n hx hb dX5_bitsOfFloat_21 rfl (lv_at hl 2 rfl) ?_
  refine lv_fconst2 hx hb dX5_bitsOfFloat_22 ?_
  refine lv_fcmp hx hb dX5_bitsOfFloat_23 ?_
  refine lv_if_lt (tgt := 40) hx hb dX5_bitsOfFloat_24 (by decide) (fun c => absurd c hk24_5) (fun c_13 => ?_)
  refine lv_fload_n hx hb dX5_bitsOfFloat_27 rfl (lv_at hl 2 rfl) ?_
  refine lv_fconst2 hx hb dX5_bitsOfFloat_28 ?_
  refine lv_fdiv hx hb dX5_bitsOfFloat_29 hn29_5 ?_
  refine lv_fstore_n (lv' := [(1, .float (FP.fdiv (FP.fdiv (FP.fdiv (FP.fdiv (FP.fdiv (FP.fdiv x FP.fconst2) FP.fconst2) FP.fconst2) FP.fconst2) FP.fconst2) FP.fconst2)), (3, .int (5 : Int32)), (2, .int (132 : Int32)), (0, .float x)]) hx hb dX5_bitsOfFloat_30 rfl hl (by decide) rfl (fun ls hl => ?_)
  refine lv_iinc (v := 133) (k := 2) (lv' := [(2, .int (133 : Int32)), (1, .float (FP.fdiv (FP.fdiv (FP.fdiv (FP.fdiv (FP.fdiv (FP.fdiv x FP.fconst2) FP.fconst2) FP.fconst2) FP.fconst2) FP.fconst2) FP.fconst2)), (3, .int (5 : Int32)), (0, .float x)]) hx hb dX5_bitsOfFloat_31 hl rfl rfl (by decide) rfl (fun ls hl => ?_)
  refine lv_iinc (v := 6) (k := 2) (lv' := [(3, .int (6 : Int32)), (2, .int (133 : Int32)), (1, .float (FP.fdiv (FP.fdiv (FP.fdiv (FP.fdiv (FP.fdiv (FP.fdiv x FP.fconst2) FP.fconst2) FP.fconst2) FP.fconst2) FP.fconst2) FP.fconst2)), (0, .float x)]) hx hb dX5_bitsOfFloat_34 hl rfl rfl (by decide) rfl (fun ls hl => ?_)
  refine lv_goto (tgt := 15) hx hb dX5_bitsOfFloat_37 (by decide) ?_
  refine lv_iload_n hx hb dX5_bitsOfFloat_15 rfl (lv_at hl 0 rfl) ?_
  refine lv_bipush (v := 127) hx hb dX5_bitsOfFloat_16 (by decide) ?_
  refine nv_ge hx hb 6 127 40 (by omega) (by omega) dX5_bitsOfFloat_18 (by decide) (fun c => absurd c (by decide)) (fun c_14 => ?_)
  refine lv_fload_n hx hb dX5_bitsOfFloat_21 rfl (lv_at hl 2 rfl) ?_
  refine lv_fconst2 hx hb dX5_bitsOfFloat_22 ?_
  refine lv_fcmp hx hb dX5_bitsOfFloat_23 ?_
  refine lv_if_lt (tgt := 40) hx hb dX5_bitsOfFloat_24 (by decide) (fun c_15 => ?_) (fun c => absurd hk24_6 c)
  refine lv_iconst (v := 0) hx hb dX5_bitsOfFloat_40 (by decide) ?_
  refine lv_istore_n (lv' := [(3, .int (0 : Int32)), (2, .int (133 : Int32)), (1, .float (FP.fdiv (FP.fdiv (FP.fdiv (FP.fdiv (FP.fdiv (FP.fdiv x FP.fconst2) FP.fconst2) FP.fconst2) FP.fconst2) FP.fconst2) FP.fconst2)), (0, .float x)]) hx hb dX5_bitsOfFloat_41 rfl hl (by decide) rfl (fun ls hl => ?_)
  refine lv_iload_n hx hb dX5_bitsOfFloat_42 rfl (lv_at hl 0 rfl) ?_
  refine lv_bipush (v := 127) hx hb dX5_bitsOfFloat_43 (by decide) ?_
  refine nv_ge hx hb 0 127 67 (by omega) (by omega) dX5_bitsOfFloat_45 (by decide) (fun c => absurd c (by decide)) (fun c_16 => ?_)
  refine lv_fload_n hx hb dX5_bitsOfFloat_48 rfl (lv_at hl 2 rfl) ?_
  refine lv_fconst1 hx hb dX5_bitsOfFloat_49 ?_
  refine lv_fcmp hx hb dX5_bitsOfFloat_50 ?_
  refine lv_if_ge (tgt := 67) hx hb dX5_bitsOfFloat_51 (by decide) (fun c_17 => ?_) (fun c => absurd hk51_0 c)
  refine lv_fload_n hx hb dX5_bitsOfFloat_67 rfl (lv_at hl 2 rfl) ?_
  refine lv_fconst1 hx hb dX5_bitsOfFloat_68 ?_
  refine lv_fsub hx hb dX5_bitsOfFloat_69 hn69_0 ?_
  refine nv_ldcwf hx hb hown (hw _ aw_749) dX5_bitsOfFloat_70 ?_
  refine lv_fmul hx hb dX5_bitsOfFloat_73 hn73_0 ?_
  refine lv_f2i hx hb dX5_bitsOfFloat_74 ?_
  refine lv_istore_n (lv' := [(3, .int (FP.f2i (FP.fmul (FP.fsub (FP.fdiv (FP.fdiv (FP.fdiv (FP.fdiv (FP.fdiv (FP.fdiv x FP.fconst2) FP.fconst2) FP.fconst2) FP.fconst2) FP.fconst2) FP.fconst2) FP.fconst1) (1258291200 : UInt32)))), (2, .int (133 : Int32)), (1, .float (FP.fdiv (FP.fdiv (FP.fdiv (FP.fdiv (FP.fdiv (FP.fdiv x FP.fconst2) FP.fconst2) FP.fconst2) FP.fconst2) FP.fconst2) FP.fconst2)), (0, .float x)]) hx hb dX5_bitsOfFloat_75 rfl hl (by decide) rfl (fun ls hl => ?_)
  refine lv_iload_n hx hb dX5_bitsOfFloat_76 rfl (lv_at hl 1 rfl) ?_
  refine lv_bipush (v := 23) hx hb dX5_bitsOfFloat_77 (by decide) ?_
  refine lv_ishl hx hb dX5_bitsOfFloat_79 ?_
  refine lv_iload_n hx hb dX5_bitsOfFloat_80 rfl (lv_at hl 0 rfl) ?_
  refine lv_iadd hx hb dX5_bitsOfFloat_81 ?_
  rw [← hQQ]; exact W.iret hx hb hr (ct_end (F := (f_X5_bitsOfFloat_6 x)) (u := (((133 : Int32) <<< ((23 : Int32) &&& 31)) + (FP.f2i (FP.fmul (FP.fsub (FP.fdiv (FP.fdiv (FP.fdiv (FP.fdiv (FP.fdiv (FP.fdiv x FP.fconst2) FP.fconst2) FP.fconst2) FP.fconst2) FP.fconst2) FP.fconst2) FP.fconst1) (1258291200 : UInt32))))) (rf := (fun u => some (.int u))) (wf := (fun _ => [].flatten)) rfl rfl hP hD hS) hS.2.2 dX5_bitsOfFloat_82
def f_X5_bitsOfFloat_7 (x : UInt32) : Int32 := (((134 : Int32) <<< ((23 : Int32) &&& 31)) + (FP.f2i (FP.fmul (FP.fsub (FP.fdiv (FP.fdiv (FP.fdiv (FP.fdiv (FP.fdiv (FP.fdiv (FP.fdiv x FP.fconst2) FP.fconst2) FP.fconst2) FP.fconst2) FP.fconst2) FP.fconst2) FP.fconst2) FP.fconst1) (1258291200 : UInt32))))
set_option maxRecDepth 100000 in
set_option maxHeartbeats 4000000 in
theorem k_X5_bitsOfFloat_7 (l : Launch) (G : va_G) (cI cS cL : ClassId) (x : UInt32) (hk3_0 : 0 < (Op.cmpValue (FP.fcmp x FP.fconst0) .l)) (hk24_0 : ¬ ((Op.cmpValue (FP.fcmp x FP.fconst2) .l) < 0)) (hn29_0 : vf_n32 (FP.fdiv x FP.fconst2)) (hk24_1 : ¬ ((Op.cmpValue (FP.fcmp (FP.fdiv x FP.fconst2) FP.fconst2) .l) < 0)) (hn29_1 : vf_n32 (FP.fdiv (FP.fdiv x FP.fconst2) FP.fconst2)) (hk24_2 : ¬ ((Op.cmpValue (FP.fcmp (FP.fdiv (FP.fdiv x FP.fconst2) FP.fconst2) FP.fconst2) .l) < 0)) (hn29_2 : vf_n32 (FP.fdiv (FP.fdiv (FP.fdiv x FP.fconst2) FP.fconst2) FP.fconst2)) (hk24_3 : ¬ ((Op.cmpValue (FP.fcmp (FP.fdiv (FP.fdiv (FP.fdiv x FP.fconst2) FP.fconst2) FP.fconst2) FP.fconst2) .l) < 0)) (hn29_3 : vf_n32 (FP.fdiv (FP.fdiv (FP.fdiv (FP.fdiv x FP.fconst2) FP.fconst2) FP.fconst2) FP.fconst2)) (hk24_4 : ¬ ((Op.cmpValue (FP.fcmp (FP.fdiv (FP.fdiv (FP.fdiv (FP.fdiv x FP.fconst2) FP.fconst2) FP.fconst2) FP.fconst2) FP.fconst2) .l) < 0)) (hn29_4 : vf_n32 (FP.fdiv (FP.fdiv (FP.fdiv (FP.fdiv (FP.fdiv x FP.fconst2) FP.fconst2) FP.fconst2) FP.fconst2) FP.fconst2)) (hk24_5 : ¬ ((Op.cmpValue (FP.fcmp (FP.fdiv (FP.fdiv (FP.fdiv (FP.fdiv (FP.fdiv x FP.fconst2) FP.fconst2) FP.fconst2) FP.fconst2) FP.fconst2) FP.fconst2) .l) < 0)) (hn29_5 : vf_n32 (FP.fdiv (FP.fdiv (FP.fdiv (FP.fdiv (FP.fdiv (FP.fdiv x FP.fconst2) FP.fconst2) FP.fconst2) FP.fconst2) FP.fconst2) FP.fconst2)) (hk24_6 : ¬ ((Op.cmpValue (FP.fcmp (FP.fdiv (FP.fdiv (FP.fdiv (FP.fdiv (FP.fdiv (FP.fdiv x FP.fconst2) FP.fconst2) FP.fconst2) FP.fconst2) FP.fconst2) FP.fconst2) FP.fconst2) .l) < 0)) (hn29_6 : vf_n32 (FP.fdiv (FP.fdiv (FP.fdiv (FP.fdiv (FP.fdiv (FP.fdiv (FP.fdiv x FP.fconst2) FP.fconst2) FP.fconst2) FP.fconst2) FP.fconst2) FP.fconst2) FP.fconst2)) (hk24_7 : (Op.cmpValue (FP.fcmp (FP.fdiv (FP.fdiv (FP.fdiv (FP.fdiv (FP.fdiv (FP.fdiv (FP.fdiv x FP.fconst2) FP.fconst2) FP.fconst2) FP.fconst2) FP.fconst2) FP.fconst2) FP.fconst2) FP.fconst2) .l) < 0) (hk51_0 : 0 ≤ (Op.cmpValue (FP.fcmp (FP.fdiv (FP.fdiv (FP.fdiv (FP.fdiv (FP.fdiv (FP.fdiv (FP.fdiv x FP.fconst2) FP.fconst2) FP.fconst2) FP.fconst2) FP.fconst2) FP.fconst2) FP.fconst2) FP.fconst1) .g)) (hn69_0 : vf_n32 (FP.fsub (FP.fdiv (FP.fdiv (FP.fdiv (FP.fdiv (FP.fdiv (FP.fdiv (FP.fdiv x FP.fconst2) FP.fconst2) FP.fconst2) FP.fconst2) FP.fconst2) FP.fconst2) FP.fconst2) FP.fconst1)) (hn73_0 : vf_n32 (FP.fmul (FP.fsub (FP.fdiv (FP.fdiv (FP.fdiv (FP.fdiv (FP.fdiv (FP.fdiv (FP.fdiv x FP.fconst2) FP.fconst2) FP.fconst2) FP.fconst2) FP.fconst2) FP.fconst2) FP.fconst2) FP.fconst1) (1258291200 : UInt32))) : Ct l G (tyl cI cS cL) yX5_bitsOfFloat cX5_bitsOfFloat 4 (some (Jvm.ClassFile.FieldType.int)) 0 0 0 0 [.float x] [].flatten (f_X5_bitsOfFloat_7 x) (fun u => some (.int u)) (fun _ => [].flatten) := by
  refine Ct.of (by decide +kernel) (Nat.le_of_ble_eq_true rfl) ?_
  intro p e s m args below meth c A ls hx hb hr hml hw hown hlocks hin hK hN hP hD hS hA hl
  have hown : s.vm.findClass RX5 = some m.cls := hown
  have X : Cx p s m args c cX5_bitsOfFloat 4 RX5 G (tyl cI cS cL) := ⟨hx, hb, hml, hown, hw, hK, hN⟩
  have hP : va_P G classes [].flatten s.heap := hP
  have hl : lv_has ls 4 [(0, .float x)] := hl
  generalize hQQ : MQ below _ args s 0 0 A = QQ
  refine lv_fload_n hx hb dX5_bitsOfFloat_0 rfl (lv_at hl 0 rfl) ?_
  refine lv_fconst0 hx hb dX5_bitsOfFloat_1 ?_
  refine lv_fcmp hx hb dX5_bitsOfFloat_2 ?_
  refine lv_if_gt (tgt := 8) hx hb dX5_bitsOfFloat_3 (by decide) (fun c_1 => ?_) (fun c => absurd hk3_0 c)
  refine lv_fload_n hx hb dX5_bitsOfFloat_8 rfl (lv_at hl 0 rfl) ?_
  refine lv_fstore_n (lv' := [(1, .float x), (0, .float x)]) hx hb dX5_bitsOfFloat_9 rfl hl (by decide) rfl (fun ls hl => ?_)
  refine lv_bipush (v := 127) hx hb dX5_bitsOfFloat_10 (by decide) ?_
  refine lv_istore_n (lv' := [(2, .int (127 : Int32)), (1, .float x), (0, .float x)]) hx hb dX5_bitsOfFloat_12 rfl hl (by decide) rfl (fun ls hl => ?_)
  refine lv_iconst (v := 0) hx hb dX5_bitsOfFloat_13 (by decide) ?_
  refine lv_istore_n (lv' := [(3, .int (0 : Int32)), (2, .int (127 : Int32)), (1, .float x), (0, .float x)]) hx hb dX5_bitsOfFloat_14 rfl hl (by decide) rfl (fun ls hl => ?_)
  refine lv_iload_n hx hb dX5_bitsOfFloat_15 rfl (lv_at hl 0 rfl) ?_
  refine lv_bipush (v := 127) hx hb dX5_bitsOfFloat_16 (by decide) ?_
  refine nv_ge hx hb 0 127 40 (by omega) (by omega) dX5_bitsOfFloat_18 (by decide) (fun c => absurd c (by decide)) (fun c_2 => ?_)
  refine lv_fload_n hx hb dX5_bitsOfFloat_21 rfl (lv_at hl 2 rfl) ?_
  refine lv_fconst2 hx hb dX5_bitsOfFloat_22 ?_
  refine lv_fcmp hx hb dX5_bitsOfFloat_23 ?_
  refine lv_if_lt (tgt := 40) hx hb dX5_bitsOfFloat_24 (by decide) (fun c => absurd c hk24_0) (fun c_3 => ?_)
  refine lv_fload_n hx hb dX5_bitsOfFloat_27 rfl (lv_at hl 2 rfl) ?_
  refine lv_fconst2 hx hb dX5_bitsOfFloat_28 ?_
  refine lv_fdiv hx hb dX5_bitsOfFloat_29 hn29_0 ?_
  refine lv_fstore_n (lv' := [(1, .float (FP.fdiv x FP.fconst2)), (3, .int (0 : Int32)), (2, .int (127 : Int32)), (0, .float x)]) hx hb dX5_bitsOfFloat_30 rfl hl (by decide) rfl (fun ls hl => ?_)
  refine lv_iinc (v := 128) (k := 2) (lv' := [(2, .int (128 : Int32)), (1, .float (FP.fdiv x FP.fconst2)), (3, .int (0 : Int32)), (0, .float x)]) hx hb dX5_bitsOfFloat_31 hl rfl rfl (by decide) rfl (fun ls hl => ?_)
  refine lv_iinc (v := 1) (k := 2) (lv' := [(3, .int (1 : Int32)), (2, .int (128 : Int32)), (1, .float (FP.fdiv x FP.fconst2)), (0, .float x)]) hx hb dX5_bitsOfFloat_34 hl rfl rfl (by decide) rfl (fun ls hl => ?_)
  refine lv_goto (tgt := 15) hx hb dX5_bitsOfFloat_37 (by decide) ?_
  refine lv_iload_n hx hb dX5_bitsOfFloat_15 rfl (lv_at hl 0 rfl) ?_
  refine lv_bipush (v := 127) hx hb dX5_bitsOfFloat_16 (by decide) ?_
  refine nv_ge hx hb 1 127 40 (by omega) (by omega) dX5_bitsOfFloat_18 (by decide) (fun c => absurd c (by decide)) (fun c_4 => ?_)
  refine lv_fload_n hx hb dX5_bitsOfFloat_21 rfl (lv_at hl 2 rfl) ?_
  refine lv_fconst2 hx hb dX5_bitsOfFloat_22 ?_
  refine lv_fcmp hx hb dX5_bitsOfFloat_23 ?_
  refine lv_if_lt (tgt := 40) hx hb dX5_bitsOfFloat_24 (by decide) (fun c => absurd c hk24_1) (fun c_5 => ?_)
  refine lv_fload_n hx hb dX5_bitsOfFloat_27 rfl (lv_at hl 2 rfl) ?_
  refine lv_fconst2 hx hb dX5_bitsOfFloat_28 ?_
  refine lv_fdiv hx hb dX5_bitsOfFloat_29 hn29_1 ?_
  refine lv_fstore_n (lv' := [(1, .float (FP.fdiv (FP.fdiv x FP.fconst2) FP.fconst2)), (3, .int (1 : Int32)), (2, .int (128 : Int32)), (0, .float x)]) hx hb dX5_bitsOfFloat_30 rfl hl (by decide) rfl (fun ls hl => ?_)
  refine lv_iinc (v := 129) (k := 2) (lv' := [(2, .int (129 : Int32)), (1, .float (FP.fdiv (FP.fdiv x FP.fconst2) FP.fconst2)), (3, .int (1 : Int32)), (0, .float x)]) hx hb dX5_bitsOfFloat_31 hl rfl rfl (by decide) rfl (fun ls hl => ?_)
  refine lv_iinc (v := 2) (k := 2) (lv' := [(3, .int (2 : Int32)), (2, .int (129 : Int32)), (1, .float (FP.fdiv (FP.fdiv x FP.fconst2) FP.fconst2)), (0, .float x)]) hx hb dX5_bitsOfFloat_34 hl rfl rfl (by decide) rfl (fun ls hl => ?_)
  refine lv_goto (tgt := 15) hx hb dX5_bitsOfFloat_37 (by decide) ?_
  refine lv_iload_n hx hb dX5_bitsOfFloat_15 rfl (lv_at hl 0 rfl) ?_
  refine lv_bipush (v := 127) hx hb dX5_bitsOfFloat_16 (by decide) ?_
  refine nv_ge hx hb 2 127 40 (by omega) (by omega) dX5_bitsOfFloat_18 (by decide) (fun c => absurd c (by decide)) (fun c_6 => ?_)
  refine lv_fload_n hx hb dX5_bitsOfFloat_21 rfl (lv_at hl 2 rfl) ?_
  refine lv_fconst2 hx hb dX5_bitsOfFloat_22 ?_
  refine lv_fcmp hx hb dX5_bitsOfFloat_23 ?_
  refine lv_if_lt (tgt := 40) hx hb dX5_bitsOfFloat_24 (by decide) (fun c => absurd c hk24_2) (fun c_7 => ?_)
  refine lv_fload_n hx hb dX5_bitsOfFloat_27 rfl (lv_at hl 2 rfl) ?_
  refine lv_fconst2 hx hb dX5_bitsOfFloat_28 ?_
  refine lv_fdiv hx hb dX5_bitsOfFloat_29 hn29_2 ?_
  refine lv_fstore_n (lv' := [(1, .float (FP.fdiv (FP.fdiv (FP.fdiv x FP.fconst2) FP.fconst2) FP.fconst2)), (3, .int (2 : Int32)), (2, .int (129 : Int32)), (0, .float x)]) hx hb dX5_bitsOfFloat_30 rfl hl (by decide) rfl (fun ls hl => ?_)
  refine lv_iinc (v := 130) (k := 2) (lv' := [(2, .int (130 : Int32)), (1, .float (FP.fdiv (FP.fdiv (FP.fdiv x FP.fconst2) FP.fconst2) FP.fconst2)), (3, .int (2 : Int32)), (0, .float x)]) hx hb dX5_bitsOfFloat_31 hl rfl rfl (by decide) rfl (fun ls hl => ?_)
  refine lv_iinc (v := 3) (k := 2) (lv' := [(3, .int (3 : Int32)), (2, .int (130 : Int32)), (1, .float (FP.fdiv (FP.fdiv (FP.fdiv x FP.fconst2) FP.fconst2) FP.fconst2)), (0, .float x)]) hx hb dX5_bitsOfFloat_34 hl rfl rfl (by decide) rfl (fun ls hl => ?_)
  refine lv_goto (tgt := 15) hx hb dX5_bitsOfFloat_37 (by decide) ?_
  refine lv_iload_n hx hb dX5_bitsOfFloat_15 rfl (lv_at hl 0 rfl) ?_
  refine lv_bipush (v := 127) hx hb dX5_bitsOfFloat_16 (by decide) ?_
  refine nv_ge hx hb 3 127 40 (by omega) (by omega) dX5_bitsOfFloat_18 (by decide) (fun c => absurd c (by decide)) (fun c_8 => ?_)
  refine lv_fload_n hx hb dX5_bitsOfFloat_21 rfl (lv_at hl 2 rfl) ?_
  refine lv_fconst2 hx hb dX5_bitsOfFloat_22 ?_
  refine lv_fcmp hx hb dX5_bitsOfFloat_23 ?_
  refine lv_if_lt (tgt := 40) hx hb dX5_bitsOfFloat_24 (by decide) (fun c => absurd c hk24_3) (fun c_9 => ?_)
  refine lv_fload_n hx hb dX5_bitsOfFloat_27 rfl (lv_at hl 2 rfl) ?_
  refine lv_fconst2 hx hb dX5_bitsOfFloat_28 ?_
  refine lv_fdiv hx hb dX5_bitsOfFloat_29 hn29_3 ?_
  refine lv_fstore_n (lv' := [(1, .float (FP.fdiv (FP.fdiv (FP.fdiv (FP.fdiv x FP.fconst2) FP.fconst2) FP.fconst2) FP.fconst2)), (3, .int (3 : Int32)), (2, .int (130 : Int32)), (0, .float x)]) hx hb dX5_bitsOfFloat_30 rfl hl (by decide) rfl (fun ls hl => ?_)
  refine lv_iinc (v := 131) (k := 2) (lv' := [(2, .int (131 : Int32)), (1, .float (FP.fdiv (FP.fdiv (FP.fdiv (FP.fdiv x FP.fconst2) FP.fconst2) FP.fconst2) FP.fconst2)), (3, .int (3 : Int32)), (0, .float x)]) hx hb dX5_bitsOfFloat_31 hl rfl rfl (by decide) rfl (fun ls hl => ?_)
  refine lv_iinc (v := 4) (k := 2) (lv' := [(3, .int (4 : Int32)), (2, .int (131 : Int32)), (1, .float (FP.fdiv (FP.fdiv (FP.fdiv (FP.fdiv x FP.fconst2) FP.fconst2) FP.fconst2) FP.fconst2)), (0, .float x)]) hx hb dX5_bitsOfFloat_34 hl rfl rfl (by decide) rfl (fun ls hl => ?_)
  refine lv_goto (tgt := 15) hx hb dX5_bitsOfFloat_37 (by decide) ?_
  refine lv_iload_n hx hb dX5_bitsOfFloat_15 rfl (lv_at hl 0 rfl) ?_
  refine lv_bipush (v := 127) hx hb dX5_bitsOfFloat_16 (by decide) ?_
  refine nv_ge hx hb 4 127 40 (by omega) (by omega) dX5_bitsOfFloat_18 (by decide) (fun c => absurd c (by decide)) (fun c_10 => ?_)
  refine lv_fload_n hx hb dX5_bitsOfFloat_21 rfl (lv_at hl 2 rfl) ?_
  refine lv_fconst2 hx hb dX5_bitsOfFloat_22 ?_
  refine lv_fcmp hx hb dX5_bitsOfFloat_23 ?_
  refine lv_if_lt (tgt := 40) hx hb dX5_bitsOfFloat_24 (by decide) (fun c => absurd c hk24_4) (fun c_11 => ?_)
  refine lv_fload_n hx hb dX5_bitsOfFloat_27 rfl (lv_at hl 2 rfl) ?_
  refine lv_fconst2 hx hb dX5_bitsOfFloat_28 ?_
  refine lv_fdiv hx hb dX5_bitsOfFloat_29 hn29_4 ?_
  refine lv_fstore_n (lv' := [(1, .float (FP.fdiv (FP.fdiv (FP.fdiv (FP.fdiv (FP.fdiv x FP.fconst2) FP.fconst2) FP.fconst2) FP.fconst2) FP.fconst2)), (3, .int (4 : Int32)), (2, .int (131 : Int32)), (0, .float x)]) hx hb dX5_bitsOfFloat_30 rfl hl (by decide) rfl (fun ls hl => ?_)
  refine lv_iinc (v := 132) (k := 2) (lv' := [(2, .int (132 : Int32)), (1, .float (FP.fdiv (FP.fdiv (FP.fdiv (FP.fdiv (FP.fdiv x FP.fconst2) FP.fconst2) FP.fconst2) FP.fconst2) FP.fconst2)), (3, .int (4 : Int32)), (0, .float x)]) hx hb dX5_bitsOfFloat_31 hl rfl rfl (by decide) rfl (fun ls hl => ?_)
  refine lv_iinc (v := 5) (k := 2) (lv' := [(3, .int (5 : Int32)), (2, .int (132 : Int32)), (1, .float (FP.fdiv (FP.fdiv (FP.fdiv (FP.fdiv (FP.fdiv x FP.fconst2) FP.fconst2) FP.fconst2) FP.fconst2) FP.fconst2)), (0, .float x)]) hx hb dX5_bitsOfFloat_34 hl rfl rfl (by decide) rfl (fun ls hl => ?_)
  refine lv_goto (tgt := 15) hx hb dX5_bitsOfFloat_37 (by decide) ?_
  refine lv_iload_n hx hb dX5_bitsOfFloat_15 rfl (lv_at hl 0 rfl) ?_
  refine lv_bipush (v := 127) hx hb dX5_bitsOfFloat_16 (by decide) ?_
  refine nv_ge hx hb 5 127 40 (by omega) (by omega) dX5_bitsOfFloat_18 (by decide) (fun c => absurd c (by decide)) (fun c_12 => ?_)
  refine lv_fload_n hx hb dX5_bitsOfFloat_21 rfl (lv_at hl 2 rfl) ?_
  refine lv_fconst2 hx hb dX5_bitsOfFloat_22 ?_
  refine lv_fcmp hx hb dX5_bitsOfFloat_23 ?_
  refine lv_if_lt (tgt := 40) hx hb dX5_bitsOfFloat_24 (by decide) (fun c => absurd c hk24_5) (fun c_13 => ?_)
  refine lv_fload_n hx hb dX5_bitsOfFloat_27 rfl (lv_at hl 2 rfl) ?_
  refine lv_fconst2 hx hb dX5_bitsOfFloat_28 ?_
  refine lv_fdiv hx hb dX5_bitsOfFloat_29 hn29_5 ?_
  refine lv_fstore_n (lv' := [(1, .float (FP.fdiv (FP.fdiv (FP.fdiv (FP.fdiv (FP.fdiv (FP.fdiv x FP.fconst2) FP.fconst2) FP.fconst2) FP.fconst2) FP.fconst2) FP.fconst2)), (3, .int (5 : Int32)), (2, .int (132 : Int32)), (0, .float x)]) hx hb dX5_bitsOfFloat_30 rfl hl (by decide) rfl (fun ls hl => ?_)
  refine lv_iinc (v := 133) (k := 2) (lv' := [(2, .int (133 : Int32)), (1, .float (FP.fdiv (FP.fdiv (FP.fdiv (FP.fdiv (FP.fdiv (FP.fdiv x FP.fconst2) FP.fconst2) FP.fconst2) FP.fconst2) FP.fconst2) FP.fconst2)), (3, .int (5 : Int32)), (0, .float x)]) hx hb dX5_bitsOfFloat_31 hl rfl rfl (by decide) rfl (fun ls hl => ?_)
  refine lv_iinc (v := 6) (k := 2) (lv' := [(3, .int (6 : Int32)), (2, .int (133 : Int32)), (1, .float (FP.fdiv (FP.fdiv (FP.fdiv (FP.fdiv (FP.fdiv (FP.fdiv x FP.fconst2) FP.fconst2) FP.fconst2) FP.fconst2) FP.fconst2) FP.fconst2)), (0, .float x)]) hx hb dX5_bitsOfFloat_34 hl rfl rfl (by decide) rfl (fun ls hl => ?_)
  refine lv_goto (tgt := 15) hx hb dX5_bitsOfFloat_37 (by decide) ?_
  refine lv_iload_n hx hb dX5_bitsOfFloat_15 rfl (lv_at hl 0 rfl) ?_
  refine lv_bipush (v := 127) hx hb dX5_bitsOfFloat_16 (by decide) ?_
  refine nv_ge hx hb 6 127 40 (by omega) (by omega) dX5_bitsOfFloat_18 (by decide) (fun c => absurd c (by decide)) (fun c_14 => ?_)
  refine lv_fload_n hx hb dX5_bitsOfFloat_21 rfl (lv_at hl 2 rfl) ?_
  refine lv_fconst2 hx hb dX5_bitsOfFloat_22 ?_
  refine lv_fcmp hx hb dX5_bitsOfFloat_23 ?_
  refine lv_if_lt (tgt := 40) hx hb dX5_bitsOfFloat_24 (by decide) (fun c => absurd c hk24_6) (fun c_15 => ?_)
  refine lv_fload_n hx hb dX5_bitsOfFloat_27 rfl (lv_at hl 2 rfl) ?_
  refine lv_fconst2 hx hb dX5_bitsOfFloat_28 ?_
  refine lv_fdiv hx hb dX5_bitsOfFloat_29 hn29_6 ?_
  refine lv_fstore_n (lv' := [(1, .float (FP.fdiv (FP.fdiv (FP.fdiv (FP.fdiv (FP.fdiv (FP.fdiv (FP.fdiv x FP.fconst2) FP.fconst2) FP.fconst2) FP.fconst2) FP.fconst2) FP.fconst2) FP.fconst2)), (3, .int (6 : Int32)), (2, .int (133 : Int32)), (0, .float x)]) hx hb dX5_bitsOfFloat_30 rfl hl (by decide) rfl (fun ls hl => ?_)
  refine lv_iinc (v := 134) (k := 2) (lv' := [(2, .int (134 : Int32)), (1, .float (FP.fdiv (FP.fdiv (FP.fdiv (FP.fdiv (FP.fdiv (FP.fdiv (FP.fdiv x FP.fconst2) FP.fconst2) FP.fconst2) FP.fconst2) FP.fconst2) FP.fconst2) FP.fconst2)), (3, .int (6 : Int32)), (0, .float x)]) hx hb dX5_bitsOfFloat_31 hl rfl rfl (by decide) rfl (fun ls hl => ?_)
  refine lv_iinc (v := 7) (k := 2) (lv' := [(3, .int (7 : Int32)), (2, .int (134 : Int32)), (1, .float (FP.fdiv (FP.fdiv (FP.fdiv (FP.fdiv (FP.fdiv (FP.fdiv (FP.fdiv x FP.fconst2) FP.fconst2) FP.fconst2) FP.fconst2) FP.fconst2) FP.fconst2) FP.fconst2)), (0, .float x)]) hx hb dX5_bitsOfFloat_34 hl rfl rfl (by decide) rfl (fun ls hl => ?_)
  refine lv_goto (tgt := 15) hx hb dX5_bitsOfFloat_37 (by decide) ?_
  refine lv_iload_n hx hb dX5_bitsOfFloat_15 rfl (lv_at hl 0 rfl) ?_
  refine lv_bipush (v := 127) hx hb dX5_bitsOfFloat_16 (by decide) ?_
  refine nv_ge hx hb 7 127 40 (by omega) (by omega) dX5_bitsOfFloat_18 (by decide) (fun c => absurd c (by decide)) (fun c_16 => ?_)
  refine lv_fload_n hx hb dX5_bitsOfFloat_21 rfl (lv_at hl 2 rfl) ?_
  refine lv_fconst2 hx hb dX5_bitsOfFloat_22 ?_
  refine lv_fcmp hx hb dX5_bitsOfFloat_23 ?_
  refine lv_if_lt (tgt := 40) hx hb dX5_bitsOfFloat_24 (by decide) (fun c_17 => ?_) (fun c => absurd hk24_7 c)
  refine lv_iconst (v := 0) hx hb dX5_bitsOfFloat_40 (by decide) ?_
  refine lv_istore_n (lv' := [(3, .int (0 : Int32)), (2, .int (134 : Int32)), (1, .float (FP.fdiv (FP.fdiv (FP.fdiv (FP.fdiv (FP.fdiv (FP.fdiv (FP.fdiv x FP.fconst2) FP.fconst2) FP.fconst2) FP.fconst2) FP.fconst2) FP.fconst2) FP.fconst2)), (0, .float x)]) hx hb dX5_bitsOfFloat_41 rfl hl (by decide) rfl (fun ls hl => ?_)
  refine lv_iload_n hx hb dX5_bitsOfFloat_42 rfl (lv_at hl 0 rfl) ?_
  refine lv_bipush (v := 127) hx hb dX5_bitsOfFloat_43 (by decide) ?_
  refine nv_ge hx hb 0 127 67 (by omega) (by omega) dX5_bitsOfFloat_45 (by decide) (fun c => absurd c (by decide)) (fun c_18 => ?_)
  refine lv_fload_n hx hb dX5_bitsOfFloat_48 rfl (lv_at hl 2 rfl) ?_
  refine lv_fconst1 hx hb dX5_bitsOfFloat_49 ?_
  refine lv_fcmp hx hb dX5_bitsOfFloat_50 ?_
  refine lv_if_ge (tgt := 67) hx hb dX5_bitsOfFloat_51 (by decide) (fun c_19 => ?_) (fun c => absurd hk51_0 c)
  refine lv_fload_n hx hb dX5_bitsOfFloat_67 rfl (lv_at hl 2 rfl) ?_
  refine lv_fconst1 hx hb dX5_bitsOfFloat_68 ?_
  refine lv_fsub hx hb dX5_bitsOfFloat_69 hn69_0 ?_
  refine nv_ldcwf hx hb hown (hw _ aw_749) dX5_bitsOfFloat_70 ?_
  refine lv_fmul hx hb dX5_bitsOfFloat_73 hn73_0 ?_
  refine lv_f2i hx hb dX5_bitsOfFloat_74 ?_
  refine lv_istore_n (lv' := [(3, .int (FP.f2i (FP.fmul (FP.fsub (FP.fdiv (FP.fdiv (FP.fdiv (FP.fdiv (FP.fdiv (FP.fdiv (FP.fdiv x FP.fconst2) FP.fconst2) FP.fconst2) FP.fconst2) FP.fconst2) FP.fconst2) FP.fconst2) FP.fconst1) (1258291200 : UInt32)))), (2, .int (134 : Int32)), (1, .float (FP.fdiv (FP.fdiv (FP.fdiv (FP.fdiv (FP.fdiv (FP.fdiv (FP.fdiv x FP.fconst2) FP.fconst2) FP.fconst2) FP.fconst2) FP.fconst2) FP.fconst2) FP.fconst2)), (0, .float x)]) hx hb dX5_bitsOfFloat_75 rfl hl (by decide) rfl (fun ls hl => ?_)
  refine lv_iload_n hx hb dX5_bitsOfFloat_76 rfl (lv_at hl 1 rfl) ?_
  refine lv_bipush (v := 23) hx hb dX5_bitsOfFloat_77 (by decide) ?_
  refine lv_ishl hx hb dX5_bitsOfFloat_79 ?_
  refine lv_iload_n hx hb dX5_bitsOfFloat_80 rfl (lv_at hl 0 rfl) ?_
  refine lv_iadd hx hb dX5_bitsOfFloat_81 ?_
  rw [← hQQ]; exact W.iret hx hb hr (ct_end (F := (f_X5_bitsOfFloat_7 x)) (u := (((134 : Int32) <<< ((23 : Int32) &&& 31)) + (FP.f2i (FP.fmul (FP.fsub (FP.fdiv (FP.fdiv (FP.fdiv (FP.fdiv (FP.fdiv (FP.fdiv (FP.fdiv x FP.fconst2) FP.fconst2) FP.fconst2) FP.fconst2) FP.fconst2) FP.fconst2) FP.fconst2) FP.fconst1) (1258291200 : UInt32))))) (rf := (fun u => some (.int u))) (wf := (fun _ => [].flatten)) rfl rfl hP hD hS) hS.2.2 dX5_bitsOfFloat_82
def f_X5_bitsOfFloat_8 (x : UInt32) : Int32 := (((135 : Int32) <<< ((23 : Int32) &&& 31)) + (FP.f2i (FP.fmul (FP.fsub (FP.fdiv (FP.fdiv (FP.fdiv (FP.fdiv (FP.fdiv (FP.fdiv (FP.fdiv (FP.fdiv x FP.fconst2) FP.fconst2) FP.fconst2) FP.fconst2) FP.fconst2) FP.fconst2) FP.fconst2) FP.fconst2) FP.fconst1) (1258291200 : UInt32))))
set_option maxRecDepth 100000 in
set_option maxHeartbeats 4000000 in
theorem k_X5_bitsOfFloat_8 (l : Launch) (G : va_G) (cI cS cL : ClassId) (x : UInt32) (hk3_0 : 0 < (Op.cmpValue (FP.fcmp x FP.fconst0) .l)) (hk24_0 : ¬ ((Op.cmpValue (FP.fcmp x FP.fconst2) .l) < 0)) (hn29_0 : vf_n32 (FP.fdiv x FP.fconst2)) (hk24_1 : ¬ ((Op.cmpValue (FP.fcmp (FP.fdiv x FP.fconst2) FP.fconst2) .l) < 0)) (hn29_1 : vf_n32 (FP.fdiv (FP.fdiv x FP.fconst2) FP.fconst2)) (hk24_2 : ¬ ((Op.cmpValue (FP.fcmp (FP.fdiv (FP.fdiv x FP.fconst2) FP.fconst2) FP.fconst2) .l) < 0)) (hn29_2 : vf_n32 (FP.fdiv (FP.fdiv (FP.fdiv x FP.fconst2) FP.fconst2) FP.fconst2)) (hk24_3 : ¬ ((Op.cmpValue (FP.fcmp (FP.fdiv (FP.fdiv (FP.fdiv x FP.fconst2) FP.fconst2) FP.fconst2) FP.fconst2) .l) < 0)) (hn29_3 : vf_n32 (FP.fdiv (FP.fdiv (FP.fdiv (FP.fdiv x FP.fconst2) FP.fconst2) FP.fconst2) FP.fconst2)) (hk24_4 : ¬ ((Op.cmpValue (FP.fcmp (FP.fdiv (FP.fdiv (FP.fdiv (FP.fdiv x FP.fconst2) FP.fconst2) FP.fconst2) FP.fconst2) FP.fconst2) .l) < 0)) (hn29_4 : vf_n32 (FP.fdiv (FP.fdiv (FP.fdiv (FP.fdiv (FP.fdiv x FP.fconst2) FP.fconst2) FP.fconst2) FP.fconst2) FP.fconst2)) (hk24_5 : ¬ ((Op.cmpValue (FP.fcmp (FP.fdiv (FP.fdiv (FP.fdiv (FP.fdiv (FP.fdiv x FP.fconst2) FP.fconst2) FP.fconst2) FP.fconst2) FP.fconst2) FP.fconst2) .l) < 0)) (hn29_5 : vf_n32 (FP.fdiv (FP.fdiv (FP.fdiv (FP.fdiv (FP.fdiv (FP.fdiv x FP.fconst2) FP.fconst2) FP.fconst2) FP.fconst2) FP.fconst2) FP.fconst2)) (hk24_6 : ¬ ((Op.cmpValue (FP.fcmp (FP.fdiv (FP.fdiv (FP.fdiv (FP.fdiv (FP.fdiv (FP.fdiv x FP.fconst2) FP.fconst2) FP.fconst2) FP.fconst2) FP.fconst2) FP.fconst2) FP.fconst2) .l) < 0)) (hn29_6 : vf_n32 (FP.fdiv (FP.fdiv (FP.fdiv (FP.fdiv (FP.fdiv (FP.fdiv (FP.fdiv x FP.fconst2) FP.fconst2) FP.fconst2) FP.fconst2) FP.fconst2) FP.fconst2) FP.fconst2)) (hk24_7 : ¬ ((Op.cmpValue (FP.fcmp (FP.fdiv (FP.fdiv (FP.fdiv (FP.fdiv (FP.fdiv (FP.fdiv (FP.fdiv x FP.fconst2) FP.fconst2) FP.fconst2) FP.fconst2) FP.fconst2) FP.fconst2) FP.fconst2) FP.fconst2) .l) < 0)) (hn29_7 : vf_n32 (FP.fdiv (FP.fdiv (FP.fdiv (FP.fdiv (FP.fdiv (FP.fdiv (FP.fdiv (FP.fdiv x FP.fconst2) FP.fconst2) FP.fconst2) FP.fconst2) FP.fconst2) FP.fconst2) FP.fconst2) FP.fconst2)) (hk24_8 : (Op.cmpValue (FP.fcmp (FP.fdiv (FP.fdiv (FP.fdiv (FP.fdiv (FP.fdiv (FP.fdiv (FP.fdiv (FP.fdiv x FP.fconst2) FP.fconst2) FP.fconst2) FP.fconst2) FP.fconst2) FP.fconst2) FP.fconst2) FP.fconst2) FP.fconst2) .l) < 0) (hk51_0 : 0 ≤ (Op.cmpValue (FP.fcmp (FP.fdiv (FP.fdiv (FP.fdiv (FP.fdiv (FP.fdiv (FP.fdiv (FP.fdiv (FP.fdiv x FP.fconst2) FP.fconst2) FP.fconst2) FP.fconst2) FP.fconst2) FP.fconst2) FP.fconst2) FP.fconst2) FP.fconst1) .g)) (hn69_0 : vf_n32 (FP.fsub (FP.fdiv (FP.fdiv (FP.fdiv (FP.fdiv (FP.fdiv (FP.fdiv (FP.fdiv (FP.fdiv x FP.fconst2) FP.fconst2) FP.fconst2) FP.fconst2) FP.fconst2) FP.fconst2) FP.fconst2) FP.fconst2) FP.fconst1)) (hn73_0 : vf_n32 (FP.fmul (FP.fsub (FP.fdiv (FP.fdiv (FP.fdiv (FP.fdiv (FP.fdiv (FP.fdiv (FP.fdiv (FP.fdiv x FP.fconst2) FP.fconst2) FP.fconst2) FP.fconst2) FP.fconst2) FP.fconst2) FP.fconst2) FP.fconst2) FP.fconst1) (1258291200 : UInt32))) : Ct l G (tyl cI cS cL) yX5_bitsOfFloat cX5_bitsOfFloat 4 (some (Jvm.ClassFile.FieldType.int)) 0 0 0 0 [.float x] [].flatten (f_X5_bitsOfFloat_8 x) (fun u => some (.int u)) (fun _ => [].flatten) := by
  refine Ct.of (by decide +kernel) (Nat.le_of_ble_eq_true rfl) ?_
  intro p e s m args below meth c A ls hx hb hr hml hw hown hlocks hin hK hN hP hD hS hA hl
  have hown : s.vm.findClass RX5 = some m.cls := hown
  have X : Cx p s m args c cX5_bitsOfFloat 4 RX5 G (tyl cI cS cL) := ⟨hx, hb, hml, hown, hw, hK, hN⟩
  have hP : va_P G classes [].flatten s.heap := hP
  have hl : lv_has ls 4 [(0, .float x)] := hl
  generalize hQQ : MQ below _ args s 0 0 A = QQ
  refine lv_fload_n hx hb dX5_bitsOfFloat_0 rfl (lv_at hl 0 rfl) ?_
  refine lv_fconst0 hx hb dX5_bitsOfFloat_1 ?_
  refine lv_fcmp hx hb dX5_bitsOfFloat_2 ?_
  refine lv_if_gt (tgt := 8) hx hb dX5_bitsOfFloat_3 (by decide) (fun c_1 => ?_) (fun c => absurd hk3_0 c)
  refine lv_fload_n hx hb dX5_bitsOfFloat_8 rfl (lv_at hl 0 rfl) ?_
  refine lv_fstore_n (lv' := [(1, .float x), (0, .float x)]) hx hb dX5_bitsOfFloat_9 rfl hl (by decide) rfl (fun ls hl => ?_)
  refine lv_bipush (v := 127) hx hb dX5_bitsOfFloat_10 (by decide) ?_
  refine lv_istore_n (lv' := [(2, .int (127 : Int32)), (1, .float x), (0, .float x)]) hx hb dX5_bitsOfFloat_12 rfl hl (by decide) rfl (fun ls hl => ?_)
  refine lv_iconst (v := 0) hx hb dX5_bitsOfFloat_13 (by decide) ?_
  refine lv_istore_n (lv' := [(3, .int (0 : Int32)), (2, .int (127 : Int32)), (1, .float x), (0, .float x)]) hx hb dX5_bitsOfFloat_14 rfl hl (by decide) rfl (fun ls hl => ?_)
  refine lv_iload_n hx hb dX5_bitsOfFloat_15 rfl (lv_at hl 0 rfl) ?_
  refine lv_bipush (v := 127) hx hb dX5_bitsOfFloat_16 (by decide) ?_
  refine nv_ge hx hb 0 127 40 (by omega) (by omega) dX5_bitsOfFloat_18 (by decide) (fun c => absurd c (by decide)) (fun c_2 => ?_)
  refine lv_fload_n hx hb dX5_bitsOfFloat_21 rfl (lv_at hl 2 rfl) ?_
  refine lv_fconst2 hx hb dX5_bitsOfFloat_22 ?_
  refine lv_fcmp hx hb dX5_bitsOfFloat_23 ?_
  refine lv_if_lt (tgt := 40) hx hb dX5_bitsOfFloat_24 (by decide) (fun c => absurd c hk24_0) (fun c_3 => ?_)
  refine lv_fload_n hx hb dX5_bitsOfFloat_27 rfl (lv_at hl 2 rfl) ?_
  refine lv_fconst2 hx hb dX5_bitsOfFloat_28 ?_
  refine lv_fdiv hx hb dX5_bitsOfFloat_29 hn29_0 ?_
  refine lv_fstore_n (lv' := [(1, .float (FP.fdiv x FP.fconst2)), (3, .int (0 : Int32)), (2, .int (127 : Int32)), (0, .float x)]) hx hb dX5_bitsOfFloat_30 rfl hl (by decide) rfl (fun ls hl => ?_)
  refine lv_iinc (v := 128) (k := 2) (lv' := [(2, .int (128 : Int32)), (1, .float (FP.fdiv x FP.fconst2)), (3, .int (0 : Int32)), (0, .float x)]) hx hb dX5_bitsOfFloat_31 hl rfl rfl (by decide) rfl (fun ls hl => ?_)
  refine lv_iinc (v := 1) (k := 2) (lv' := [(3, .int (1 : Int32)), (2, .int (128 : Int32)), (1, .float (FP.fdiv x FP.fconst2)), (0, .float x)]) hx hb dX5_bitsOfFloat_34 hl rfl rfl (by decide) rfl (fun ls hl => ?_)
  refine lv_goto (tgt := 15) hx hb dX5_bitsOfFloat_37 (by decide) ?_
  refine lv_iload_n hx hb dX5_bitsOfFloat_15 rfl (lv_at hl 0 rfl) ?_
  refine lv_bipush (v := 127) hx hb dX5_bitsOfFloat_16 (by decide) ?_
  refine nv_ge hx hb 1 127 40 (by omega) (by omega) dX5_bitsOfFloat_18 (by decide) (fun c => absurd c (by decide)) (fun c_4 => ?_)
  refine lv_fload_n hx hb dX5_bitsOfFloat_21 rfl (lv_at hl 2 rfl) ?_
  refine lv_fconst2 hx hb dX5_bitsOfFloat_22 ?_
  refine lv_fcmp hx hb dX5_bitsOfFloat_23 ?_
  refine lv_if_lt (tgt := 40) hx hb dX5_bitsOfFloat_24 (by decide) (fun c => absurd c hk24_1) (fun c_5 => ?_)
  refine lv_fload_n hx hb dX5_bitsOfFloat_27 rfl (lv_at hl 2 rfl) ?_
  refine lv_fconst2 hx hb dX5_bitsOfFloat_28 ?_
  refine lv_fdiv hx hb dX5_bitsOfFloat_29 hn29_1 ?_
  refine lv_fstore_n (lv' := [(1, .float (FP.fdiv (FP.fdiv x FP.fconst2) FP.fconst2)), (3, .int (1 : Int32)), (2, .int (128 : Int32)), (0, .float x)]) hx hb dX5_bitsOfFloat_30 rfl hl (by decide) rfl (fun ls hl => ?_)
  refine lv_iinc (v := 129) (k := 2) (lv' := [(2, .int (129 : Int32)), (1, .float (FP.fdiv (FP.fdiv x FP.fconst2) FP.fconst2)), (3, .int (1 : Int32)), (0, .float x)]) hx hb dX5_bitsOfFloat_31 hl rfl rfl (by decide) rfl (fun ls hl => ?_)
  refine lv_iinc (v := 2) (k := 2) (lv' := [(3, .int (2 : Int32)), (2, .int (129 : Int32)), (1, .float (FP.fdiv (FP.fdiv x FP.fconst2) FP.fconst2)), (0, .float x)]) hx hb dX5_bitsOfFloat_34 hl rfl rfl (by decide) rfl (fun ls hl => ?_)
  refine lv_goto (tgt := 15) hx hb dX5_bitsOfFloat_37 (by decide) ?_
  refine lv_iload_n hx hb dX5_bitsOfFloat_15 rfl (lv_at hl 0 rfl) ?_
  refine lv_bipush (v := 127) hx hb dX5_bitsOfFloat_16 (by decide) ?_
  refine nv_ge hx hb 2 127 40 (by omega) (by omega) dX5_bitsOfFloat_18 (by decide) (fun c => absurd c (by decide)) (fun c_6 => ?_)
  refine lv_fload_n hx hb dX5_bitsOfFloat_21 rfl (lv_at hl 2 rfl) ?_
  refine lv_fconst2 hx hb dX5_bitsOfFloat_22 ?_
  refine lv_fcmp hx hb dX5_bitsOfFloat_23 ?_
  refine lv_if_lt (tgt := 40) hx hb dX5_bitsOfFloat_24 (by decide) (fun c => absurd c hk24_2) (fun c_7 => ?_)
  refine lv_fload_n hx hb dX5_bitsOfFloat_27 rfl (lv_at hl 2 rfl) ?_
  refine lv_fconst2 hx hb dX5_bitsOfFloat_28 ?_
  refine lv_fdiv hx hb dX5_bitsOfFloat_29 hn29_2 ?_
  refine lv_fstore_n (lv' := [(1, .float (FP.fdiv (FP.fdiv (FP.fdiv x FP.fconst2) FP.fconst2) FP.fconst2)), (3, .int (2 : Int32)), (2, .int (129 : Int32)), (0, .float x)]) hx hb dX5_bitsOfFloat_30 rfl hl (by decide) rfl (fun ls hl => ?_)
  refine lv_iinc (v := 130) (k := 2) (lv' := [(2, .int (130 : Int32)), (1, .float (FP.fdiv (FP.fdiv (FP.fdiv x FP.fconst2) FP.fconst2) FP.fconst2)), (3, .int (2 : Int32)), (0, .float x)]) hx hb dX5_bitsOfFloat_31 hl rfl rfl (by decide) rfl (fun ls hl => ?_)
  refine lv_iinc (v := 3) (k := 2) (lv' := [(3, .int (3 : Int32)), (2, .int (130 : Int32)), (1, .float (FP.fdiv (FP.fdiv (FP.fdiv x FP.fconst2) FP.fconst2) FP.fconst2)), (0, .float x)]) hx hb dX5_bitsOfFloat_34 hl rfl rfl (by decide) rfl (fun ls hl => ?_)
  refine lv_goto (tgt := 15) hx hb dX5_bitsOfFloat_37 (by decide) ?_
  refine lv_iload_n hx hb dX5_bitsOfFloat_15 rfl (lv_at hl 0 rfl) ?_
  refine lv_bipush (v := 127) hx hb dX5_bitsOfFloat_16 (by decide) ?_
  refine nv_ge hx hb 3 127 40 (by omega) (by omega) dX5_bitsOfFloat_18 (by decide) (fun c => absurd c (by decide)) (fun c_8 => ?_)
  refine lv_fload_n hx hb dX5_bitsOfFloat_21 rfl (lv_at hl 2 rfl) ?_
  refine lv_fconst2 hx hb dX5_bitsOfFloat_22 ?_
  refine lv_fcmp hx hb dX5_bitsOfFloat_23 ?_
  refine lv_if_lt (tgt := 40) hx hb dX5_bitsOfFloat_24 (by decide) (fun c => absurd c hk24_3) (fun c_9 => ?_)
  refine lv_fload_n hx hb dX5_bitsOfFloat_27 rfl (lv_at hl 2 rfl) ?_
  refine lv_fconst2 hx hb dX5_bitsOfFloat_28 ?_
  refine lv_fdiv hx hb dX5_bitsOfFloat_29 hn29_3 ?_
  refine lv_fstore_n (lv' := [(1, .float (FP.fdiv (FP.fdiv (FP.fdiv (FP.fdiv x FP.fconst2) FP.fconst2) FP.fconst2) FP.fconst2)), (3, .int (3 : Int32)), (2, .int (130 : Int32)), (0, .float x)]) hx hb dX5_bitsOfFloat_30 rfl hl (by decide) rfl (fun ls hl => ?_)
  refine lv_iinc (v := 131) (k := 2) (lv' := [(2, .int (131 : Int32)), (1, .float (FP.fdiv (FP.fdiv (FP.fdiv (FP.fdiv x FP.fconst2) FP.fconst2) FP.fconst2) FP.fconst2)), (3, .int (3 : Int32)), (0, .float x)]) hx hb dX5_bitsOfFloat_31 hl rfl rfl (by decide) rfl (fun ls hl => ?_)
  refine lv_iinc (v := 4) (k := 2) (lv' := [(3, .int (4 : Int32)), (2, .int (131 : Int32)), (1, .float (FP.fdiv (FP.fdiv (FP.fdiv (FP.fdiv x FP.fconst2) FP.fconst2) FP.fconst2) FP.fconst2)), (0, .float x)]) hx hb dX5_bitsOfFloat_34 hl rfl rfl (by decide) rfl (fun ls hl => ?_)
  refine lv_goto (tgt := 15) hx hb dX5_bitsOfFloat_37 (by decide) ?_
  refine lv_iload_n hx hb dX5_bitsOfFloat_15 rfl (lv_at hl 0 rfl) ?_
  refine lv_bipush (v := 127) hx hb dX5_bitsOfFloat_16 (by decide) ?_
  refine nv_ge hx hb 4 127 40 (by omega) (by omega) dX5_bitsOfFloat_18 (by decide) (fun c => absurd c (by decide)) (fun c_10 => ?_)
  refine lv_fload_n hx hb dX5_bitsOfFloat_21 rfl (lv_at hl 2 rfl) ?_
  refine lv_fconst2 hx hb dX5_bitsOfFloat_22 ?_
  refine lv_fcmp hx hb dX5_bitsOfFloat_23 ?_
  refine lv_if_lt (tgt := 40) hx hb dX5_bitsOfFloat_24 (by decide) (fun c => absurd c hk24_4) (fun c_11 => ?_)
  refine lv_fload_n hx hb dX5_bitsOfFloat_27 rfl (lv_at hl 2 rfl) ?_
  refine lv_fconst2 hx hb dX5_bitsOfFloat_28 ?_
  refine lv_fdiv hx hb dX5_bitsOfFloat_29 hn29_4 ?_
  refine lv_fstore_n (lv' := [(1, .float (FP.fdiv (FP.fdiv (FP.fdiv (FP.fdiv (FP.fdiv x FP.fconst2) FP.fconst2) FP.fconst2) FP.fconst2) FP.fconst2)), (3, .int (4 : Int32)), (2, .int (131 : Int32)), (0, .float x)]) hx hb dX5_bitsOfFloat_30 rfl hl (by decide) rfl (fun ls hl => ?_)
  refine lv_iinc (v := 132) (k := 2) (lv' := [(2, .int (132 : Int32)), (1, .float (FP.fdiv (FP.fdiv (FP.fdiv (FP.fdiv (FP.fdiv x FP.fconst2) FP.fconst2) FP.fconst2) FP.fconst2) FP.fconst2)), (3, .int (4 : Int32)), (0, .float x)]) hx hb dX5_bitsOfFloat_31 hl rfl rfl (by decide) rfl (fun ls hl => ?_)
  refine lv_iinc (v := 5) (k := 2) (lv' := [(3, .int (5 : Int32)), (2, .int (132 : Int32)), (1, .float (FP.fdiv (FP.fdiv (FP.fdiv (FP.fdiv (FP.fdiv x FP.fconst2) FP.fconst2) FP.fconst2) FP.fconst2) FP.fconst2)), (0, .float x)]) hx hb dX5_bitsOfFloat_34 hl rfl rfl (by decide) rfl (fun ls hl => ?_)
  refine lv_goto (tgt := 15) hx hb dX5_bitsOfFloat_37 (by decide) ?_
  refine lv_iload_n hx hb dX5_bitsOfFloat_15 rfl (lv_at hl 0 rfl) ?_
  refine lv_bipush (v := 127) hx hb dX5_bitsOfFloat_16 (by decide) ?_
  refine nv_ge hx hb 5 127 40 (by omega) (by omega) dX5_bitsOfFloat_18 (by decide) (fun c => absurd c (by decide)) (fun c_12 => ?_)
  refine lv_fload_n hx hb dX5_bitsOfFloat_21 rfl (lv_at hl 2 rfl) ?_
  refine lv_fconst2 hx hb dX5_bitsOfFloat_22 ?_
  refine lv_fcmp hx hb dX5_bitsOfFloat_23 ?_
  refine lv_if_lt (tgt := 40) hx hb dX5_bitsOfFloat_24 (by decide) (fun c => absurd c hk24_5) (fun c_13 => ?_)
  refine lv_fload_n hx hb dX5_bitsOfFloat_27 rfl (lv_at hl 2 rfl) ?_
  refine lv_fconst2 hx hb dX5_bitsOfFloat_28 ?_
  refine lv_fdiv hx hb dX5_bitsOfFloat_29 hn29_5 ?_
  refine lv_fstore_n (lv' := [(1, .float (FP.fdiv (FP.fdiv (FP.fdiv (FP.fdiv (FP.fdiv (FP.fdiv x FP.fconst2) FP.fconst2) FP.fconst2) FP.fconst2) FP.fconst2) FP.fconst2)), (3, .int (5 : Int32)), (2, .int (132 : Int32)), (0, .float x)]) hx hb dX5_bitsOfFloat_30 rfl hl (by decide) rfl (fun ls hl => ?_)
  refine lv_iinc (v := 133) (k := 2) (lv' := [(2, .int (133 : Int32)), (1, .float (FP.fdiv (FP.fdiv (FP.fdiv (FP.fdiv (FP.fdiv (FP.fdiv x FP.fconst2) FP.fconst2) FP.fconst2) FP.fconst2) FP.fconst2) FP.fconst2)), (3, .int (5 : Int32)), (0, .float x)]) hx hb dX5_bitsOfFloat_31 hl rfl rfl (by decide) rfl (fun ls hl => ?_)
  refine lv_iinc (v := 6) (k := 2) (lv' := [(3, .int (6 : Int32)), (2, .int (133 : Int32)), (1, .float (FP.fdiv (FP.fdiv (FP.fdiv (FP.fdiv (FP.fdiv (FP.fdiv x FP.fconst2) FP.fconst2) FP.fconst2) FP.fconst2) FP.fconst2) FP.fconst2)), (0, .float x)]) hx hb dX5_bitsOfFloat_34 hl rfl rfl (by decide) rfl (fun ls hl => ?_)
  refine lv_goto (tgt := 15) hx hb dX5_bitsOfFloat_37 (by decide) ?_
  refine lv_iload_n hx hb dX5_bitsOfFloat_15 rfl (lv_at hl 0 rfl) ?_
  refine lv_bipush (v := 127) hx hb dX5_bitsOfFloat_16 (by decide) ?_
  refine nv_ge hx hb 6 127 40 (by omega) (by omega) dX5_bitsOfFloat_18 (by decide) (fun c => absurd c (by decide)) (fun c_14 => ?_)
  refine lv_fload_n hx hb dX5_bitsOfFloat_21 rfl (lv_at hl 2 rfl) ?_
  refine lv_fconst2 hx hb dX5_bitsOfFloat_22 ?_
  refine lv_fcmp hx hb dX5_bitsOfFloat_23 ?_
  refine lv_if_lt (tgt := 40) hx hb dX5_bitsOfFloat_24 (by decide) (fun c => absurd c hk24_6) (fun c_15 => ?_)
  refine lv_fload_n hx hb dX5_bitsOfFloat_27 rfl (lv_at hl 2 rfl) ?_
  refine lv_fconst2 hx hb dX5_bitsOfFloat_28 ?_
  refine lv_fdiv hx hb dX5_bitsOfFloat_29 hn29_6 ?_
  refine lv_fstore_n (lv' := [(1, .float (FP.fdiv (FP.fdiv (FP.fdiv (FP.fdiv (FP.fdiv (FP.fdiv (FP.fdiv x FP.fconst2) FP.fconst2) FP.fconst2) FP.fconst2) FP.fconst2) FP.fconst2) FP.fconst2)), (3, .int (6 : Int32)), (2, .int (133 : Int32)), (0, .float x)]) hx hb dX5_bitsOfFloat_30 rfl hl (by decide) rfl (fun ls hl => ?_)
  refine lv_iinc (v := 134) (k := 2) (lv' := [(2, .int (134 : Int32)), (1, .float (FP.fdiv (FP.fdiv (FP.fdiv (FP.fdiv (FP.fdiv (FP.fdiv (FP.fdiv x FP.fconst2) FP.fconst2) FP.fconst2) FP.fconst2) FP.fconst2) FP.fconst2) FP.fconst2)), (3, .int (6 : Int32)), (0, .float x)]) hx hb dX5_bitsOfFloat_31 hl rfl rfl (by decide) rfl (fun ls hl => ?_)
  refine lv_iinc (v := 7) (k := 2) (lv' := [(3, .int (7 : Int32)), (2, .int (134 : Int32)), (1, .float (FP.fdiv (FP.fdiv (FP.fdiv (FP.fdiv (FP.fdiv (FP.fdiv (FP.fdiv x FP.fconst2) FP.fconst2) FP.fconst2) FP.fconst2) FP.fconst2) FP.fconst2) FP.fconst2)), (0, .float x)]) hx hb dX5_bitsOfFloat_34 hl rfl rfl (by decide) rfl (fun ls hl => ?_)
  refine lv_goto (tgt := 15) hx hb dX5_bitsOfFloat_37 (by decide) ?_
  refine lv_iload_n hx hb dX5_bitsOfFloat_15 rfl (lv_at hl 0 rfl) ?_
  refine lv_bipush (v := 127) hx hb dX5_bitsOfFloat_16 (by decide) ?_
  refine nv_ge hx hb 7 127 40 (by omega) (by omega) dX5_bitsOfFloat_18 (by decide) (fun c => absurd c (by decide)) (fun c_16 => ?_)
  refine lv_fload_n hx hb dX5_bitsOfFloat_21 rfl (lv_at hl 2 rfl) ?_
  refine lv_fconst2 hx hb dX5_bitsOfFloat_22 ?_
  refine lv_fcmp hx hb dX5_bitsOfFloat_23 ?_
  refine lv_if_lt (tgt := 40) hx hb dX5_bitsOfFloat_24 (by decide) (fun c => absurd c hk24_7) (fun c_17 => ?_)
  refine lv_fload_n hx hb dX5_bitsOfFloat_27 rfl (lv_at hl 2 rfl) ?_
  refine lv_fconst2 hx hb dX5_bitsOfFloat_28 ?_
  refine lv_fdiv hx hb dX5_bitsOfFloat_29 hn29_7 ?_
  refine lv_fstore_n (lv' := [(1, .float (FP.fdiv (FP.fdiv (FP.fdiv (FP.fdiv (FP.fdiv (FP.fdiv (FP.fdiv (FP.fdiv x FP.fconst2) FP.fconst2) FP.fconst2) FP.fconst2) FP.fconst2) FP.fconst2) FP.fconst2) FP.fconst2)), (3, .int (7 : Int32)), (2, .int (134 : Int32)), (0, .float x)]) hx hb dX5_bitsOfFloat_30 rfl hl (by decide) rfl (fun ls hl => ?_)
  refine lv_iinc (v := 135) (k := 2) (lv' := [(2, .int (135 : Int32)), (1, .float (FP.fdiv (FP.fdiv (FP.fdiv (FP.fdiv (FP.fdiv (FP.fdiv (FP.fdiv (FP.fdiv x FP.fconst2) FP.fconst2) FP.fconst2) FP.fconst2) FP.fconst2) FP.fconst2) FP.fconst2) FP.fconst2)), (3, .int (7 : Int32)), (0, .float x)]) hx hb dX5_bitsOfFloat_31 hl rfl rfl (by decide) rfl (fun ls hl => ?_)
  refine lv_iinc (v := 8) (k := 2) (lv' := [(3, .int (8 : Int32)), (2, .int (135 : Int32)), (1, .float (FP.fdiv (FP.fdiv (FP.fdiv (FP.fdiv (FP.fdiv (FP.fdiv (FP.fdiv (FP.fdiv x FP.fconst2) FP.fconst2) FP.fconst2) FP.fconst2) FP.fconst2) FP.fconst2) FP.fconst2) FP.fconst2)), (0, .float x)]) hx hb dX5_bitsOfFloat_34 hl rfl rfl (by decide) rfl (fun ls hl => ?_)
  refine lv_goto (tgt := 15) hx hb dX5_bitsOfFloat_37 (by decide) ?_
  refine lv_iload_n hx hb dX5_bitsOfFloat_15 rfl (lv_at hl 0 rfl) ?_
  refine lv_bipush (v := 127) hx hb dX5_bitsOfFloat_16 (by decide) ?_
  refine nv_ge hx hb 8 127 40 (by omega) (by omega) dX5_bitsOfFloat_18 (by decide) (fun c => absurd c (by decide)) (fun c_18 => ?_)
  refine lv_fload_n hx hb dX5_bitsOfFloat_21 rfl (lv_at hl 2 rfl) ?_
  refine lv_fconst2 hx hb dX5_bitsOfFloat_22 ?_
  refine lv_fcmp hx hb dX5_bitsOfFloat_23 ?_
  refine lv_if_lt (tgt := 40) hx hb dX5_bitsOfFloat_24 (by decide) (fun c_19 => ?_) (fun c => absurd hk24_8 c)
  refine lv_iconst (v := 0) hx hb dX5_bitsOfFloat_40 (by decide) ?_
  refine lv_istore_n (lv' := [(3, .int (0 : Int32)), (2, .int (135 : Int32)), (1, .float (FP.fdiv (FP.fdiv (FP.fdiv (FP.fdiv (FP.fdiv (FP.fdiv (FP.fdiv (FP.fdiv x FP.fconst2) FP.fconst2) FP.fconst2) FP.fconst2) FP.fconst2) FP.fconst2) FP.fconst2) FP.fconst2)), (0, .float x)]) hx hb dX5_bitsOfFloat_41 rfl hl (by decide) rfl (fun ls hl => ?_)
  refine lv_iload_n hx hb dX5_bitsOfFloat_42 rfl (lv_at hl 0 rfl) ?_
  refine lv_bipush (v := 127) hx hb dX5_bitsOfFloat_43 (by decide) ?_
  refine nv_ge hx hb 0 127 67 (by omega) (by omega) dX5_bitsOfFloat_45 (by decide) (fun c => absurd c (by decide)) (fun c_20 => ?_)
  refine lv_fload_n hx hb dX5_bitsOfFloat_48 rfl (lv_at hl 2 rfl) ?_
  refine lv_fconst1 hx hb dX5_bitsOfFloat_49 ?_
  refine lv_fcmp hx hb dX5_bitsOfFloat_50 ?_
  refine lv_if_ge (tgt := 67) hx hb dX5_bitsOfFloat_51 (by decide) (fun c_21 => ?_) (fun c => absurd hk51_0 c)
  refine lv_fload_n hx hb dX5_bitsOfFloat_67 rfl (lv_at hl 2 rfl) ?_
  refine lv_fconst1 hx hb dX5_bitsOfFloat_68 ?_
  refine lv_fsub hx hb dX5_bitsOfFloat_69 hn69_0 ?_
  refine nv_ldcwf hx hb hown (hw _ aw_749) dX5_bitsOfFloat_70 ?_
  refine lv_fmul hx hb dX5_bitsOfFloat_73 hn73_0 ?_
  refine lv_f2i hx hb dX5_bitsOfFloat_74 ?_
  refine lv_istore_n (lv' := [(3, .int (FP.f2i (FP.fmul (FP.fsub (FP.fdiv (FP.fdiv (FP.fdiv (FP.fdiv (FP.fdiv (FP.fdiv (FP.fdiv (FP.fdiv x FP.fconst2) FP.fconst2) FP.fconst2) FP.fconst2) FP.fconst2) FP.fconst2) FP.fconst2) FP.fconst2) FP.fconst1) (1258291200 : UInt32)))), (2, .int (135 : Int32)), (1, .float (FP.fdiv (FP.fdiv (FP.fdiv (FP.fdiv (FP.fdiv (FP.fdiv (FP.fdiv (FP.fdiv x FP.fconst2) FP.fconst2) FP.fconst2) FP.fconst2) FP.fconst2) FP.fconst2) FP.fconst2) FP.fconst2)), (0, .float x)]) hx hb dX5_bitsOfFloat_75 rfl hl (by decide) rfl (fun ls hl => ?_)
  refine lv_iload_n hx hb dX5_bitsOfFloat_76 rfl (lv_at hl 1 rfl) ?_
  refine lv_bipush (v := 23) hx hb dX5_bitsOfFloat_77 (by decide) ?_
  refine lv_ishl hx hb dX5_bitsOfFloat_79 ?_
  refine lv_iload_n hx hb dX5_bitsOfFloat_80 rfl (lv_at hl 0 rfl) ?_
  refine lv_iadd hx hb dX5_bitsOfFloat_81 ?_
  rw [← hQQ]; exact W.iret hx hb hr (ct_end (F := (f_X5_bitsOfFloat_8 x)) (u := (((135 : Int32) <<< ((23 : Int32) &&& 31)) + (FP.f2i (FP.fmul (FP.fsub (FP.fdiv (FP.fdiv (FP.fdiv (FP.fdiv (FP.fdiv (FP.fdiv (FP.fdiv (FP.fdiv x FP.fconst2) FP.fconst2) FP.fconst2) FP.fconst2) FP.fconst2) FP.fconst2) FP.fconst2) FP.fconst2) FP.fconst1) (1258291200 : UInt32))))) (rf := (fun u => some (.int u))) (wf := (fun _ => [].flatten)) rfl rfl hP hD hS) hS.2.2 dX5_bitsOfFloat_82
def f_X5_bitsOfFloat_z : Int32 := (0 : Int32)
set_option maxRecDepth 100000 in
set_option maxHeartbeats 4000000 in
theorem k_X5_bitsOfFloat_z (l : Launch) (G : va_G) (cI cS cL : ClassId) (x : UInt32) (hk3_0 : ¬ (0 < (Op.cmpValue (FP.fcmp x FP.fconst0) .l))) : Ct l G (tyl cI cS cL) yX5_bitsOfFloat cX5_bitsOfFloat 4 (some (Jvm.ClassFile.FieldType.int)) 0 0 0 0 [.float x] [].flatten f_X5_bitsOfFloat_z (fun u => some (.int u)) (fun _ => [].flatten) := by
  refine Ct.of (by decide +kernel) (Nat.le_of_ble_eq_true rfl) ?_
  intro p e s m args below meth c A ls hx hb hr hml hw hown hlocks hin hK hN hP hD hS hA hl
  have hown : s.vm.findClass RX5 = some m.cls := hown
  have X : Cx p s m args c cX5_bitsOfFloat 4 RX5 G (tyl cI cS cL) := ⟨hx, hb, hml, hown, hw, hK, hN⟩
  have hP : va_P G classes [].flatten s.heap := hP
  have hl : lv_has ls 4 [(0, .float x)] := hl
  generalize hQQ : MQ below _ args s 0 0 A = QQ
  refine lv_fload_n hx hb dX5_bitsOfFloat_0 rfl (lv_at hl 0 rfl) ?_
  refine lv_fconst0 hx hb dX5_bitsOfFloat_1 ?_
  refine lv_fcmp hx hb dX5_bitsOfFloat_2 ?_
  refine lv_if_gt (tgt := 8) hx hb dX5_bitsOfFloat_3 (by decide) (fun c => absurd c hk3_0) (fun c_1 => ?_)
  refine lv_iconst (v := 0) hx hb dX5_bitsOfFloat_6 (by decide) ?_
  rw [← hQQ]; exact W.iret hx hb hr (ct_end (F := f_X5_bitsOfFloat_z) (u := (0 : Int32)) (rf := (fun u => some (.int u))) (wf := (fun _ => [].flatten)) rfl rfl hP hD hS) hS.2.2 dX5_bitsOfFloat_7
def shD (n : Nat) : UInt64 := FP.ddiv (FP.i2d (nI n)) (4620693217682128896 : UInt64)
def shF (n : Nat) : UInt32 := FP.fdiv (FP.i2f (nI n)) (1077936128 : UInt32)
def ck_Double_m3 (x : UInt64) : Bool := decide (¬ (0 ≤ (Op.cmpValue (FP.dcmp x FP.dconst1) .g))) && (decide (((FP.dmul x (4611686018427387904 : UInt64))) &&& 0x7fffffffffffffff ≤ 0x7ff0000000000000) && (decide (¬ (0 ≤ (Op.cmpValue (FP.dcmp (FP.dmul x (4611686018427387904 : UInt64)) FP.dconst1) .g))) && (decide (((FP.dmul (FP.dmul x (4611686018427387904 : UInt64)) (4611686018427387904 : UInt64))) &&& 0x7fffffffffffffff ≤ 0x7ff0000000000000) && (decide (¬ (0 ≤ (Op.cmpValue (FP.dcmp (FP.dmul (FP.dmul x (4611686018427387904 : UInt64)) (4611686018427387904 : UInt64)) FP.dconst1) .g))) && (decide (((FP.dmul (FP.dmul (FP.dmul x (4611686018427387904 : UInt64)) (4611686018427387904 : UInt64)) (4611686018427387904 : UInt64))) &&& 0x7fffffffffffffff ≤ 0x7ff0000000000000) && (decide (0 ≤ (Op.cmpValue (FP.dcmp (FP.dmul (FP.dmul (FP.dmul x (4611686018427387904 : UInt64)) (4611686018427387904 : UInt64)) (4611686018427387904 : UInt64)) FP.dconst1) .g)) && (decide (((FP.dsub (FP.dmul (FP.dmul (FP.dmul x (4611686018427387904 : UInt64)) (4611686018427387904 : UInt64)) (4611686018427387904 : UInt64)) FP.dconst1)) &&& 0x7fffffffffffffff ≤ 0x7ff0000000000000) && (decide (((FP.dmul (FP.dsub (FP.dmul (FP.dmul (FP.dmul x (4611686018427387904 : UInt64)) (4611686018427387904 : UInt64)) (4611686018427387904 : UInt64)) FP.dconst1) (4841369599423283200 : UInt64))) &&& 0x7fffffffffffffff ≤ 0x7ff0000000000000) && (decide (f_X5_bitsOfDouble_m3 x = x.toInt64))))))))))
set_option maxRecDepth 100000 in
theorem ck_Double_m3_ok : ∀ i, i < 1 → ck_Double_m3 (shD (1 + i)) = true := by decide +kernel
def ck_Double_m2 (x : UInt64) : Bool := decide (¬ (0 ≤ (Op.cmpValue (FP.dcmp x FP.dconst1) .g))) && (decide (((FP.dmul x (4611686018427387904 : UInt64))) &&& 0x7fffffffffffffff ≤ 0x7ff0000000000000) && (decide (¬ (0 ≤ (Op.cmpValue (FP.dcmp (FP.dmul x (4611686018427387904 : UInt64)) FP.dconst1) .g))) && (decide (((FP.dmul (FP.dmul x (4611686018427387904 : UInt64)) (4611686018427387904 : UInt64))) &&& 0x7fffffffffffffff ≤ 0x7ff0000000000000) && (decide (0 ≤ (Op.cmpValue (FP.dcmp (FP.dmul (FP.dmul x (4611686018427387904 : UInt64)) (4611686018427387904 : UInt64)) FP.dconst1) .g)) && (decide (((FP.dsub (FP.dmul (FP.dmul x (4611686018427387904 : UInt64)) (4611686018427387904 : UInt64)) FP.dconst1)) &&& 0x7fffffffffffffff ≤ 0x7ff0000000000000) && (decide (((FP.dmul (FP.dsub (FP.dmul (FP.dmul x (4611686018427387904 : UInt64)) (4611686018427387904 : UInt64)) FP.dconst1) (4841369599423283200 : UInt64))) &&& 0x7fffffffffffffff ≤ 0x7ff0000000000000) && (decide (f_X5_bitsOfDouble_m2 x = x.toInt64))))))))
set_option maxRecDepth 100000 in
theorem ck_Double_m2_ok : ∀ i, i < 2 → ck_Double_m2 (shD (2 + i)) = true := by decide +kernel
def ck_Double_m1 (x : UInt64) : Bool := decide (¬ (0 ≤ (Op.cmpValue (FP.dcmp x FP.dconst1) .g))) && (decide (((FP.dmul x (4611686018427387904 : UInt64))) &&& 0x7fffffffffffffff ≤ 0x7ff0000000000000) && (decide (0 ≤ (Op.cmpValue (FP.dcmp (FP.dmul x (4611686018427387904 : UInt64)) FP.dconst1) .g)) && (decide (((FP.dsub (FP.dmul x (4611686018427387904 : UInt64)) FP.dconst1)) &&& 0x7fffffffffffffff ≤ 0x7ff0000000000000) && (decide (((FP.dmul (FP.dsub (FP.dmul x (4611686018427387904 : UInt64)) FP.dconst1) (4841369599423283200 : UInt64))) &&& 0x7fffffffffffffff ≤ 0x7ff0000000000000) && (decide (f_X5_bitsOfDouble_m1 x = x.toInt64))))))
set_option maxRecDepth 100000 in
theorem ck_Double_m1_ok : ∀ i, i < 4 → ck_Double_m1 (shD (4 + i)) = true := by decide +kernel
def ck_Double_0 (x : UInt64) : Bool := decide (0 ≤ (Op.cmpValue (FP.dcmp x FP.dconst1) .g)) && (decide (((FP.dsub x FP.dconst1)) &&& 0x7fffffffffffffff ≤ 0x7ff0000000000000) && (decide (((FP.dmul (FP.dsub x FP.dconst1) (4841369599423283200 : UInt64))) &&& 0x7fffffffffffffff ≤ 0x7ff0000000000000) && (decide (f_X5_bitsOfDouble_0 x = x.toInt64))))
set_option maxRecDepth 100000 in
theorem ck_Double_0_ok : ∀ i, i < 1 → ck_Double_0 (shD (8 + i)) = true := by decide +kernel
def ck_Float_m2 (x : UInt32) : Bool := decide (0 < (Op.cmpValue (FP.fcmp x FP.fconst0) .l)) && (decide ((Op.cmpValue (FP.fcmp x FP.fconst2) .l) < 0) && (decide (¬ (0 ≤ (Op.cmpValue (FP.fcmp x FP.fconst1) .g))) && (decide (((FP.fmul x FP.fconst2)) &&& 0x7fffffff ≤ 0x7f800000) && (decide (¬ (0 ≤ (Op.cmpValue (FP.fcmp (FP.fmul x FP.fconst2) FP.fconst1) .g))) && (decide (((FP.fmul (FP.fmul x FP.fconst2) FP.fconst2)) &&& 0x7fffffff ≤ 0x7f800000) && (decide (0 ≤ (Op.cmpValue (FP.fcmp (FP.fmul (FP.fmul x FP.fconst2) FP.fconst2) FP.fconst1) .g)) && (decide (((FP.fsub (FP.fmul (FP.fmul x FP.fconst2) FP.fconst2) FP.fconst1)) &&& 0x7fffffff ≤ 0x7f800000) && (decide (((FP.fmul (FP.fsub (FP.fmul (FP.fmul x FP.fconst2) FP.fconst2) FP.fconst1) (1258291200 : UInt32))) &&& 0x7fffffff ≤ 0x7f800000) && (decide (f_X5_bitsOfFloat_m2 x = x.toInt32))))))))))
set_option maxRecDepth 100000 in
theorem ck_Float_m2_ok : ∀ i, i < 1 → ck_Float_m2 (shF (1 + i)) = true := by decide +kernel
def ck_Float_m1 (x : UInt32) : Bool := decide (0 < (Op.cmpValue (FP.fcmp x FP.fconst0) .l)) && (decide ((Op.cmpValue (FP.fcmp x FP.fconst2) .l) < 0) && (decide (¬ (0 ≤ (Op.cmpValue (FP.fcmp x FP.fconst1) .g))) && (decide (((FP.fmul x FP.fconst2)) &&& 0x7fffffff ≤ 0x7f800000) && (decide (0 ≤ (Op.cmpValue (FP.fcmp (FP.fmul x FP.fconst2) FP.fconst1) .g)) && (decide (((FP.fsub (FP.fmul x FP.fconst2) FP.fconst1)) &&& 0x7fffffff ≤ 0x7f800000) && (decide (((FP.fmul (FP.fsub (FP.fmul x FP.fconst2) FP.fconst1) (1258291200 : UInt32))) &&& 0x7fffffff ≤ 0x7f800000) && (decide (f_X5_bitsOfFloat_m1 x = x.toInt32))))))))
set_option maxRecDepth 100000 in
theorem ck_Float_m1_ok : ∀ i, i < 1 → ck_Float_m1 (shF (2 + i)) = true := by decide +kernel
def ck_Float_0 (x : UInt32) : Bool := decide (0 < (Op.cmpValue (FP.fcmp x FP.fconst0) .l)) && (decide ((Op.cmpValue (FP.fcmp x FP.fconst2) .l) < 0) && (decide (0 ≤ (Op.cmpValue (FP.fcmp x FP.fconst1) .g)) && (decide (((FP.fsub x FP.fconst1)) &&& 0x7fffffff ≤ 0x7f800000) && (decide (((FP.fmul (FP.fsub x FP.fconst1) (1258291200 : UInt32))) &&& 0x7fffffff ≤ 0x7f800000) && (decide (f_X5_bitsOfFloat_0 x = x.toInt32))))))
set_option maxRecDepth 100000 in
theorem ck_Float_0_ok : ∀ i, i < 3 → ck_Float_0 (shF (3 + i)) = true := by decide +kernel
def ck_Float_1 (x : UInt32) : Bool := decide (0 < (Op.cmpValue (FP.fcmp x FP.fconst0) .l)) && (decide (¬ ((Op.cmpValue (FP.fcmp x FP.fconst2) .l) < 0)) && (decide (((FP.fdiv x FP.fconst2)) &&& 0x7fffffff ≤ 0x7f800000) && (decide ((Op.cmpValue (FP.fcmp (FP.fdiv x FP.fconst2) FP.fconst2) .l) < 0) && (decide (0 ≤ (Op.cmpValue (FP.fcmp (FP.fdiv x FP.fconst2) FP.fconst1) .g)) && (decide (((FP.fsub (FP.fdiv x FP.fconst2) FP.fconst1)) &&& 0x7fffffff ≤ 0x7f800000) && (decide (((FP.fmul (FP.fsub (FP.fdiv x FP.fconst2) FP.fconst1) (1258291200 : UInt32))) &&& 0x7fffffff ≤ 0x7f800000) && (decide (f_X5_bitsOfFloat_1 x = x.toInt32))))))))
set_option maxRecDepth 100000 in
theorem ck_Float_1_ok : ∀ i, i < 6 → ck_Float_1 (shF (6 + i)) = true := by decide +kernel
def ck_Float_2 (x : UInt32) : Bool := decide (0 < (Op.cmpValue (FP.fcmp x FP.fconst0) .l)) && (decide (¬ ((Op.cmpValue (FP.fcmp x FP.fconst2) .l) < 0)) && (decide (((FP.fdiv x FP.fconst2)) &&& 0x7fffffff ≤ 0x7f800000) && (decide (¬ ((Op.cmpValue (FP.fcmp (FP.fdiv x FP.fconst2) FP.fconst2) .l) < 0)) && (decide (((FP.fdiv (FP.fdiv x FP.fconst2) FP.fconst2)) &&& 0x7fffffff ≤ 0x7f800000) && (decide ((Op.cmpValue (FP.fcmp (FP.fdiv (FP.fdiv x FP.fconst2) FP.fconst2) FP.fconst2) .l) < 0) && (decide (0 ≤ (Op.cmpValue (FP.fcmp (FP.fdiv (FP.fdiv x FP.fconst2) FP.fconst2) FP.fconst1) .g)) && (decide (((FP.fsub (FP.fdiv (FP.fdiv x FP.fconst2) FP.fconst2) FP.fconst1)) &&& 0x7fffffff ≤ 0x7f800000) && (decide (((FP.fmul (FP.fsub (FP.fdiv (FP.fdiv x FP.fconst2) FP.fconst2) FP.fconst1) (1258291200 : UInt32))) &&& 0x7fffffff ≤ 0x7f800000) && (decide (f_X5_bitsOfFloat_2 x = x.toInt32))))))))))
set_option maxRecDepth 100000 in
theorem ck_Float_2_ok : ∀ i, i < 12 → ck_Float_2 (shF (12 + i)) = true := by decide +kernel
def ck_Float_3 (x : UInt32) : Bool := decide (0 < (Op.cmpValue (FP.fcmp x FP.fconst0) .l)) && (decide (¬ ((Op.cmpValue (FP.fcmp x FP.fconst2) .l) < 0)) && (decide (((FP.fdiv x FP.fconst2)) &&& 0x7fffffff ≤ 0x7f800000) && (decide (¬ ((Op.cmpValue (FP.fcmp (FP.fdiv x FP.fconst2) FP.fconst2) .l) < 0)) && (decide (((FP.fdiv (FP.fdiv x FP.fconst2) FP.fconst2)) &&& 0x7fffffff ≤ 0x7f800000) && (decide (¬ ((Op.cmpValue (FP.fcmp (FP.fdiv (FP.fdiv x FP.fconst2) FP.fconst2) FP.fconst2) .l) < 0)) && (decide (((FP.fdiv (FP.fdiv (FP.fdiv x FP.fconst2) FP.fconst2) FP.fconst2)) &&& 0x7fffffff ≤ 0x7f800000) && (decide ((Op.cmpValue (FP.fcmp (FP.fdiv (FP.fdiv (FP.fdiv x FP.fconst2) FP.fconst2) FP.fconst2) FP.fconst2) .l) < 0) && (decide (0 ≤ (Op.cmpValue (FP.fcmp (FP.fdiv (FP.fdiv (FP.fdiv x FP.fconst2) FP.fconst2) FP.fconst2) FP.fconst1) .g)) && (decide (((FP.fsub (FP.fdiv (FP.fdiv (FP.fdiv x FP.fconst2) FP.fconst2) FP.fconst2) FP.fconst1)) &&& 0x7fffffff ≤ 0x7f800000) && (decide (((FP.fmul (FP.fsub (FP.fdiv (FP.fdiv (FP.fdiv x FP.fconst2) FP.fconst2) FP.fconst2) FP.fconst1) (1258291200 : UInt32))) &&& 0x7fffffff ≤ 0x7f800000) && (decide (f_X5_bitsOfFloat_3 x = x.toInt32))))))))))))
set_option maxRecDepth 100000 in
theorem ck_Float_3_ok : ∀ i, i < 24 → ck_Float_3 (shF (24 + i)) = true := by decide +kernel
def ck_Float_4 (x : UInt32) : Bool := decide (0 < (Op.cmpValue (FP.fcmp x FP.fconst0) .l)) && (decide (¬ ((Op.cmpValue (FP.fcmp x FP.fconst2) .l) < 0)) && (decide (((FP.fdiv x FP.fconst2)) &&& 0x7fffffff ≤ 0x7f800000) && (decide (¬ ((Op.cmpValue (FP.fcmp (FP.fdiv x FP.fconst2) FP.fconst2) .l) < 0)) && (decide (((FP.fdiv (FP.fdiv x FP.fconst2) FP.fconst2)) &&& 0x7fffffff ≤ 0x7f800000) && (decide (¬ ((Op.cmpValue (FP.fcmp (FP.fdiv (FP.fdiv x FP.fconst2) FP.fconst2) FP.fconst2) .l) < 0)) && (decide (((FP.fdiv (FP.fdiv (FP.fdiv x FP.fconst2) FP.fconst2) FP.fconst2)) &&& 0x7fffffff ≤ 0x7f800000) && (decide (¬ ((Op.cmpValue (FP.fcmp (FP.fdiv (FP.fdiv (FP.fdiv x FP.fconst2) FP.fconst2) FP.fconst2) FP.fconst2) .l) < 0)) && (decide (((FP.fdiv (FP.fdiv (FP.fdiv (FP.fdiv x FP.fconst2) FP.fconst2) FP.fconst2) FP.fconst2)) &&& 0x7fffffff ≤ 0x7f800000) && (decide ((Op.cmpValue (FP.fcmp (FP.fdiv (FP.fdiv (FP.fdiv (FP.fdiv x FP.fconst2) FP.fconst2) FP.fconst2) FP.fconst2) FP.fconst2) .l) < 0) && (decide (0 ≤ (Op.cmpValue (FP.fcmp (FP.fdiv (FP.fdiv (FP.fdiv (FP.fdiv x FP.fconst2) FP.fconst2) FP.fconst2) FP.fconst2) FP.fconst1) .g)) && (decide (((FP.fsub (FP.fdiv (FP.fdiv (FP.fdiv (FP.fdiv x FP.fconst2) FP.fconst2) FP.fconst2) FP.fconst2) FP.fconst1)) &&& 0x7fffffff ≤ 0x7f800000) && (decide (((FP.fmul (FP.fsub (FP.fdiv (FP.fdiv (FP.fdiv (FP.fdiv x FP.fconst2) FP.fconst2) FP.fconst2) FP.fconst2) FP.fconst1) (1258291200 : UInt32))) &&& 0x7fffffff ≤ 0x7f800000) && (decide (f_X5_bitsOfFloat_4 x = x.toInt32))))))))))))))
set_option maxRecDepth 100000 in
theorem ck_Float_4_ok : ∀ i, i < 48 → ck_Float_4 (shF (48 + i)) = true := by decide +kernel
def ck_Float_5 (x : UInt32) : Bool := decide (0 < (Op.cmpValue (FP.fcmp x FP.fconst0) .l)) && (decide (¬ ((Op.cmpValue (FP.fcmp x FP.fconst2) .l) < 0)) && (decide (((FP.fdiv x FP.fconst2)) &&& 0x7fffffff ≤ 0x7f800000) && (decide (¬ ((Op.cmpValue (FP.fcmp (FP.fdiv x FP.fconst2) FP.fconst2) .l) < 0)) && (decide (((FP.fdiv (FP.fdiv x FP.fconst2) FP.fconst2)) &&& 0x7fffffff ≤ 0x7f800000) && (decide (¬ ((Op.cmpValue (FP.fcmp (FP.fdiv (FP.fdiv x FP.fconst2) FP.fconst2) FP.fconst2) .l) < 0)) && (decide (((FP.fdiv (FP.fdiv (FP.fdiv x FP.fconst2) FP.fconst2) FP.fconst2)) &&& 0x7fffffff ≤ 0x7f800000) && (decide (¬ ((Op.cmpValue (FP.fcmp (FP.fdiv (FP.fdiv (FP.fdiv x FP.fconst2) FP.fconst2) FP.fconst2) FP.fconst2) .l) < 0)) && (decide (((FP.fdiv (FP.fdiv (FP.fdiv (FP.fdiv x FP.fconst2) FP.fconst2) FP.fconst2) FP.fconst2)) &&& 0x7fffffff ≤ 0x7f800000) && (decide (¬ ((Op.cmpValue (FP.fcmp (FP.fdiv (FP.fdiv (FP.fdiv (FP.fdiv x FP.fconst2) FP.fconst2) FP.fconst2) FP.fconst2) FP.fconst2) .l) < 0)) && (decide (((FP.fdiv (FP.fdiv (FP.fdiv (FP.fdiv (FP.fdiv x FP.fconst2) FP.fconst2) FP.fconst2) FP.fconst2) FP.fconst2)) &&& 0x7fffffff ≤ 0x7f800000) && (decide ((Op.cmpValue (FP.fcmp (FP.fdiv (FP.fdiv (FP.fdiv (FP.fdiv (FP.fdiv x FP.fconst2) FP.fconst2) FP.fconst2) FP.fconst2) FP.fconst2) FP.fconst2) .l) < 0) && (decide (0 ≤ (Op.cmpValue (FP.fcmp (FP.fdiv (FP.fdiv (FP.fdiv (FP.fdiv (FP.fdiv x FP.fconst2) FP.fconst2) FP.fconst2) FP.fconst2) FP.fconst2) FP.fconst1) .g)) && (decide (((FP.fsub (FP.fdiv (FP.fdiv (FP.fdiv (FP.fdiv (FP.fdiv x FP.fconst2) FP.fconst2) FP.fconst2) FP.fconst2) FP.fconst2) FP.fconst1)) &&& 0x7fffffff ≤ 0x7f800000) && (decide (((FP.fmul (FP.fsub (FP.fdiv (FP.fdiv (FP.fdiv (FP.fdiv (FP.fdiv x FP.fconst2) FP.fconst2) FP.fconst2) FP.fconst2) FP.fconst2) FP.fconst1) (1258291200 : UInt32))) &&& 0x7fffffff ≤ 0x7f800000) && (decide (f_X5_bitsOfFloat_5 x = x.toInt32))))))))))))))))
set_option maxRecDepth 100000 in
theorem ck_Float_5_ok : ∀ i, i < 96 → ck_Float_5 (shF (96 + i)) = true := by decide +kernel
def ck_Float_6 (x : UInt32) : Bool := decide (0 < (Op.cmpValue (FP.fcmp x FP.fconst0) .l)) && (decide (¬ ((Op.cmpValue (FP.fcmp x FP.fconst2) .l) < 0)) && (decide (((FP.fdiv x FP.fconst2)) &&& 0x7fffffff ≤ 0x7f800000) && (decide (¬ ((Op.cmpValue (FP.fcmp (FP.fdiv x FP.fconst2) FP.fconst2) .l) < 0)) && (decide (((FP.fdiv (FP.fdiv x FP.fconst2) FP.fconst2)) &&& 0x7fffffff ≤ 0x7f800000) && (decide (¬ ((Op.cmpValue (FP.fcmp (FP.fdiv (FP.fdiv x FP.fconst2) FP.fconst2) FP.fconst2) .l) < 0)) && (decide (((FP.fdiv (FP.fdiv (FP.fdiv x FP.fconst2) FP.fconst2) FP.fconst2)) &&& 0x7fffffff ≤ 0x7f800000) && (decide (¬ ((Op.cmpValue (FP.fcmp (FP.fdiv (FP.fdiv (FP.fdiv x FP.fconst2) FP.fconst2) FP.fconst2) FP.fconst2) .l) < 0)) && (decide (((FP.fdiv (FP.fdiv (FP.fdiv (FP.fdiv x FP.fconst2) FP.fconst2) FP.fconst2) FP.fconst2)) &&& 0x7fffffff ≤ 0x7f800000) && (decide (¬ ((Op.cmpValue (FP.fcmp (FP.fdiv (FP.fdiv (FP.fdiv (FP.fdiv x FP.fconst2) FP.fconst2) FP.fconst2) FP.fconst2) FP.fconst2) .l) < 0)) && (decide (((FP.fdiv (FP.fdiv (FP.fdiv (FP.fdiv (FP.fdiv x FP.fconst2) FP.fconst2) FP.fconst2) FP.fconst2) FP.fconst2)) &&& 0x7fffffff ≤ 0x7f800000) && (decide (¬ ((Op.cmpValue (FP.fcmp (FP.fdiv (FP.fdiv (FP.fdiv (FP.fdiv (FP.fdiv x FP.fconst2) FP.fconst2) FP.fconst2) FP.fconst2) FP.fconst2) FP.fconst2) .l) < 0)) && (decide (((FP.fdiv (FP.fdiv (FP.fdiv (FP.fdiv (FP.fdiv (FP.fdiv x FP.fconst2) FP.fconst2) FP.fconst2) FP.fconst2) FP.fconst2) FP.fconst2)) &&& 0x7fffffff ≤ 0x7f800000) && (decide ((Op.cmpValue (FP.fcmp (FP.fdiv (FP.fdiv (FP.fdiv (FP.fdiv (FP.fdiv (FP.fdiv x FP.fconst2) FP.fconst2) FP.fconst2) FP.fconst2) FP.fconst2) FP.fconst2) FP.fconst2) .l) < 0) && (decide (0 ≤ (Op.cmpValue (FP.fcmp (FP.fdiv (FP.fdiv (FP.fdiv (FP.fdiv (FP.fdiv (FP.fdiv x FP.fconst2) FP.fconst2) FP.fconst2) FP.fconst2) FP.fconst2) FP.fconst2) FP.fconst1) .g)) && (decide (((FP.fsub (FP.fdiv (FP.fdiv (FP.fdiv (FP.fdiv (FP.fdiv (FP.fdiv x FP.fconst2) FP.fconst2) FP.fconst2) FP.fconst2) FP.fconst2) FP.fconst2) FP.fconst1)) &&& 0x7fffffff ≤ 0x7f800000) && (decide (((FP.fmul (FP.fsub (FP.fdiv (FP.fdiv (FP.fdiv (FP.fdiv (FP.fdiv (FP.fdiv x FP.fconst2) FP.fconst2) FP.fconst2) FP.fconst2) FP.fconst2) FP.fconst2) FP.fconst1) (1258291200 : UInt32))) &&& 0x7fffffff ≤ 0x7f800000) && (decide (f_X5_bitsOfFloat_6 x = x.toInt32))))))))))))))))))
set_option maxRecDepth 100000 in
theorem ck_Float_6_ok : ∀ i, i < 192 → ck_Float_6 (shF (192 + i)) = true := by decide +kernel
def ck_Float_7 (x : UInt32) : Bool := decide (0 < (Op.cmpValue (FP.fcmp x FP.fconst0) .l)) && (decide (¬ ((Op.cmpValue (FP.fcmp x FP.fconst2) .l) < 0)) && (decide (((FP.fdiv x FP.fconst2)) &&& 0x7fffffff ≤ 0x7f800000) && (decide (¬ ((Op.cmpValue (FP.fcmp (FP.fdiv x FP.fconst2) FP.fconst2) .l) < 0)) && (decide (((FP.fdiv (FP.fdiv x FP.fconst2) FP.fconst2)) &&& 0x7fffffff ≤ 0x7f800000) && (decide (¬ ((Op.cmpValue (FP.fcmp (FP.fdiv (FP.fdiv x FP.fconst2) FP.fconst2) FP.fconst2) .l) < 0)) && (decide (((FP.fdiv (FP.fdiv (FP.fdiv x FP.fconst2) FP.fconst2) FP.fconst2)) &&& 0x7fffffff ≤ 0x7f800000) && (decide (¬ ((Op.cmpValue (FP.fcmp (FP.fdiv (FP.fdiv (FP.fdiv x FP.fconst2) FP.fconst2) FP.fconst2) FP.fconst2) .l) < 0)) && (decide (((FP.fdiv (FP.fdiv (FP.fdiv (FP.fdiv x FP.fconst2) FP.fconst2) FP.fconst2) FP.fconst2)) &&& 0x7fffffff ≤ 0x7f800000) && (decide (¬ ((Op.cmpValue (FP.fcmp (FP.fdiv (FP.fdiv (FP.fdiv (FP.fdiv x FP.fconst2) FP.fconst2) FP.fconst2) FP.fconst2) FP.fconst2) .l) < 0)) && (decide (((FP.fdiv (FP.fdiv (FP.fdiv (FP.fdiv (FP.fdiv x FP.fconst2) FP.fconst2) FP.fconst2) FP.fconst2) FP.fconst2)) &&& 0x7fffffff ≤ 0x7f800000) && (decide (¬ ((Op.cmpValue (FP.fcmp (FP.fdiv (FP.fdiv (FP.fdiv (FP.fdiv (FP.fdiv x FP.fconst2) FP.fconst2) FP.fconst2) FP.fconst2) FP.fconst2) FP.fconst2) .l) < 0)) && (decide (((FP.fdiv (FP.fdiv (FP.fdiv (FP.fdiv (FP.fdiv (FP.fdiv x FP.fconst2) FP.fconst2) FP.fconst2) FP.fconst2) FP.fconst2) FP.fconst2)) &&& 0x7fffffff ≤ 0x7f800000) && (decide (¬ ((Op.cmpValue (FP.fcmp (FP.fdiv (FP.fdiv (FP.fdiv (FP.fdiv (FP.fdiv (FP.fdiv x FP.fconst2) FP.fconst2) FP.fconst2) FP.fconst2) FP.fconst2) FP.fconst2) FP.fconst2) .l) < 0)) && (decide (((FP.fdiv (FP.fdiv (FP.fdiv (FP.fdiv (FP.fdiv (FP.fdiv (FP.fdiv x FP.fconst2) FP.fconst2) FP.fconst2) FP.fconst2) FP.fconst2) FP.fconst2) FP.fconst2)) &&& 0x7fffffff ≤ 0x7f800000) && (decide ((Op.cmpValue (FP.fcmp (FP.fdiv (FP.fdiv (FP.fdiv (FP.fdiv (FP.fdiv (FP.fdiv (FP.fdiv x FP.fconst2) FP.fconst2) FP.fconst2) FP.fconst2) FP.fconst2) FP.fconst2) FP.fconst2) FP.fconst2) .l) < 0) && (decide (0 ≤ (Op.cmpValue (FP.fcmp (FP.fdiv (FP.fdiv (FP.fdiv (FP.fdiv (FP.fdiv (FP.fdiv (FP.fdiv x FP.fconst2) FP.fconst2) FP.fconst2) FP.fconst2) FP.fconst2) FP.fconst2) FP.fconst2) FP.fconst1) .g)) && (decide (((FP.fsub (FP.fdiv (FP.fdiv (FP.fdiv (FP.fdiv (FP.fdiv (FP.fdiv (FP.fdiv x FP.fconst2) FP.fconst2) FP.fconst2) FP.fconst2) FP.fconst2) FP.fconst2) FP.fconst2) FP.fconst1)) &&& 0x7fffffff ≤ 0x7f800000) && (decide (((FP.fmul (FP.fsub (FP.fdiv (FP.fdiv (FP.fdiv (FP.fdiv (FP.fdiv (FP.fdiv (FP.fdiv x FP.fconst2) FP.fconst2) FP.fconst2) FP.fconst2) FP.fconst2) FP.fconst2) FP.fconst2) FP.fconst1) (1258291200 : UInt32))) &&& 0x7fffffff ≤ 0x7f800000) && (decide (f_X5_bitsOfFloat_7 x = x.toInt32))))))))))))))))))))
set_option maxRecDepth 100000 in
theorem ck_Float_7_ok : ∀ i, i < 384 → ck_Float_7 (shF (384 + i)) = true := by decide +kernel
def ck_Float_8 (x : UInt32) : Bool := decide (0 < (Op.cmpValue (FP.fcmp x FP.fconst0) .l)) && (decide (¬ ((Op.cmpValue (FP.fcmp x FP.fconst2) .l) < 0)) && (decide (((FP.fdiv x FP.fconst2)) &&& 0x7fffffff ≤ 0x7f800000) && (decide (¬ ((Op.cmpValue (FP.fcmp (FP.fdiv x FP.fconst2) FP.fconst2) .l) < 0)) && (decide (((FP.fdiv (FP.fdiv x FP.fconst2) FP.fconst2)) &&& 0x7fffffff ≤ 0x7f800000) && (decide (¬ ((Op.cmpValue (FP.fcmp (FP.fdiv (FP.fdiv x FP.fconst2) FP.fconst2) FP.fconst2) .l) < 0)) && (decide (((FP.fdiv (FP.fdiv (FP.fdiv x FP.fconst2) FP.fconst2) FP.fconst2)) &&& 0x7fffffff ≤ 0x7f800000) && (decide (¬ ((Op.cmpValue (FP.fcmp (FP.fdiv (FP.fdiv (FP.fdiv x FP.fconst2) FP.fconst2) FP.fconst2) FP.fconst2) .l) < 0)) && (decide (((FP.fdiv (FP.fdiv (FP.fdiv (FP.fdiv x FP.fconst2) FP.fconst2) FP.fconst2) FP.fconst2)) &&& 0x7fffffff ≤ 0x7f800000) && (decide (¬ ((Op.cmpValue (FP.fcmp (FP.fdiv (FP.fdiv (FP.fdiv (FP.fdiv x FP.fconst2) FP.fconst2) FP.fconst2) FP.fconst2) FP.fconst2) .l) < 0)) && (decide (((FP.fdiv (FP.fdiv (FP.fdiv (FP.fdiv (FP.fdiv x FP.fconst2) FP.fconst2) FP.fconst2) FP.fconst2) FP.fconst2)) &&& 0x7fffffff ≤ 0x7f800000) && (decide (¬ ((Op.cmpValue (FP.fcmp (FP.fdiv (FP.fdiv (FP.fdiv (FP.fdiv (FP.fdiv x FP.fconst2) FP.fconst2) FP.fconst2) FP.fconst2) FP.fconst2) FP.fconst2) .l) < 0)) && (decide (((FP.fdiv (FP.fdiv (FP.fdiv (FP.fdiv (FP.fdiv (FP.fdiv x FP.fconst2) FP.fconst2) FP.fconst2) FP.fconst2) FP.fconst2) FP.fconst2)) &&& 0x7fffffff ≤ 0x7f800000) && (decide (¬ ((Op.cmpValue (FP.fcmp (FP.fdiv (FP.fdiv (FP.fdiv (FP.fdiv (FP.fdiv (FP.fdiv x FP.fconst2) FP.fconst2) FP.fconst2) FP.fconst2) FP.fconst2) FP.fconst2) FP.fconst2) .l) < 0)) && (decide (((FP.fdiv (FP.fdiv (FP.fdiv (FP.fdiv (FP.fdiv (FP.fdiv (FP.fdiv x FP.fconst2) FP.fconst2) FP.fconst2) FP.fconst2) FP.fconst2) FP.fconst2) FP.fconst2)) &&& 0x7fffffff ≤ 0x7f800000) && (decide (¬ ((Op.cmpValue (FP.fcmp (FP.fdiv (FP.fdiv (FP.fdiv (FP.fdiv (FP.fdiv (FP.fdiv (FP.fdiv x FP.fconst2) FP.fconst2) FP.fconst2) FP.fconst2) FP.fconst2) FP.fconst2) FP.fconst2) FP.fconst2) .l) < 0)) && (decide (((FP.fdiv (FP.fdiv (FP.fdiv (FP.fdiv (FP.fdiv (FP.fdiv (FP.fdiv (FP.fdiv x FP.fconst2) FP.fconst2) FP.fconst2) FP.fconst2) FP.fconst2) FP.fconst2) FP.fconst2) FP.fconst2)) &&& 0x7fffffff ≤ 0x7f800000) && (decide ((Op.cmpValue (FP.fcmp (FP.fdiv (FP.fdiv (FP.fdiv (FP.fdiv (FP.fdiv (FP.fdiv (FP.fdiv (FP.fdiv x FP.fconst2) FP.fconst2) FP.fconst2) FP.fconst2) FP.fconst2) FP.fconst2) FP.fconst2) FP.fconst2) FP.fconst2) .l) < 0) && (decide (0 ≤ (Op.cmpValue (FP.fcmp (FP.fdiv (FP.fdiv (FP.fdiv (FP.fdiv (FP.fdiv (FP.fdiv (FP.fdiv (FP.fdiv x FP.fconst2) FP.fconst2) FP.fconst2) FP.fconst2) FP.fconst2) FP.fconst2) FP.fconst2) FP.fconst2) FP.fconst1) .g)) && (decide (((FP.fsub (FP.fdiv (FP.fdiv (FP.fdiv (FP.fdiv (FP.fdiv (FP.fdiv (FP.fdiv (FP.fdiv x FP.fconst2) FP.fconst2) FP.fconst2) FP.fconst2) FP.fconst2) FP.fconst2) FP.fconst2) FP.fconst2) FP.fconst1)) &&& 0x7fffffff ≤ 0x7f800000) && (decide (((FP.fmul (FP.fsub (FP.fdiv (FP.fdiv (FP.fdiv (FP.fdiv (FP.fdiv (FP.fdiv (FP.fdiv (FP.fdiv x FP.fconst2) FP.fconst2) FP.fconst2) FP.fconst2) FP.fconst2) FP.fconst2) FP.fconst2) FP.fconst2) FP.fconst1) (1258291200 : UInt32))) &&& 0x7fffffff ≤ 0x7f800000) && (decide (f_X5_bitsOfFloat_8 x = x.toInt32))))))))))))))))))))))
set_option maxRecDepth 100000 in
theorem ck_Float_8_ok : ∀ i, i < 733 → ck_Float_8 (shF (768 + i)) = true := by decide +kernel
def ck_Float_z (x : UInt32) : Bool := decide (¬ (0 < (Op.cmpValue (FP.fcmp x FP.fconst0) .l))) && (decide (f_X5_bitsOfFloat_z = x.toInt32))
set_option maxRecDepth 100000 in
theorem ck_Float_z_ok : ∀ i, i < 1 → ck_Float_z (shF (0 + i)) = true := by decide +kernel
set_option maxRecDepth 100000 in
set_option maxHeartbeats 4000000 in
theorem k_X5_bitsOfDouble (l : Launch) (G : va_G) (cI cS cL : ClassId) (share : UInt64) (h : vf_okD share) : Ct l G (tyl cI cS cL) yX5_bitsOfDouble cX5_bitsOfDouble 8 (some (.long)) 0 0 0 0 [.double share] ([] : List va_W).flatten (f_X5_bitsOfDouble share) (fun u => some (.long u)) (fun _ => ([] : List va_W).flatten) := by
  obtain ⟨n, hn, hn1, e⟩ := h
  have e : share = shD n := e
  rcases Classical.em (1 ≤ n ∧ n ≤ 1) with r | r
  · have h := ck_Double_m3_ok (n - 1) (by omega)
    rw [show 1 + (n - 1) = n by omega, ← e] at h
    simp only [ck_Double_m3, Bool.and_eq_true, decide_eq_true_eq] at h
    obtain ⟨h0, h1, h2, h3, h4, h5, h6, h7, h8, h9⟩ := h
    exact (k_X5_bitsOfDouble_m3 l G cI cS cL share h0 h1 h2 h3 h4 h5 h6 h7 h8).conv (by rw [h9]; rfl) (fun H h => h) (fun A h => h)
  rcases Classical.em (2 ≤ n ∧ n ≤ 3) with r | r
  · have h := ck_Double_m2_ok (n - 2) (by omega)
    rw [show 2 + (n - 2) = n by omega, ← e] at h
    simp only [ck_Double_m2, Bool.and_eq_true, decide_eq_true_eq] at h
    obtain ⟨h0, h1, h2, h3, h4, h5, h6, h7⟩ := h
    exact (k_X5_bitsOfDouble_m2 l G cI cS cL share h0 h1 h2 h3 h4 h5 h6).conv (by rw [h7]; rfl) (fun H h => h) (fun A h => h)
  rcases Classical.em (4 ≤ n ∧ n ≤ 7) with r | r
  · have h := ck_Double_m1_ok (n - 4) (by omega)
    rw [show 4 + (n - 4) = n by omega, ← e] at h
    simp only [ck_Double_m1, Bool.and_eq_true, decide_eq_true_eq] at h
    obtain ⟨h0, h1, h2, h3, h4, h5⟩ := h
    exact (k_X5_bitsOfDouble_m1 l G cI cS cL share h0 h1 h2 h3 h4).conv (by rw [h5]; rfl) (fun H h => h) (fun A h => h)
  rcases Classical.em (8 ≤ n ∧ n ≤ 8) with r | r
  · have h := ck_Double_0_ok (n - 8) (by omega)
    rw [show 8 + (n - 8) = n by omega, ← e] at h
    simp only [ck_Double_0, Bool.and_eq_true, decide_eq_true_eq] at h
    obtain ⟨h0, h1, h2, h3⟩ := h
    exact (k_X5_bitsOfDouble_0 l G cI cS cL share h0 h1 h2).conv (by rw [h3]; rfl) (fun H h => h) (fun A h => h)
  exfalso; omega
set_option maxRecDepth 100000 in
set_option maxHeartbeats 4000000 in
theorem k_X5_bitsOfFloat (l : Launch) (G : va_G) (cI cS cL : ClassId) (share : UInt32) (h : vf_okF share) : Ct l G (tyl cI cS cL) yX5_bitsOfFloat cX5_bitsOfFloat 4 (some (.int)) 0 0 0 0 [.float share] ([] : List va_W).flatten (f_X5_bitsOfFloat share) (fun u => some (.int u)) (fun _ => ([] : List va_W).flatten) := by
  obtain ⟨n, hn, e⟩ := h
  have e : share = shF n := e
  rcases Classical.em (1 ≤ n ∧ n ≤ 1) with r | r
  · have h := ck_Float_m2_ok (n - 1) (by omega)
    rw [show 1 + (n - 1) = n by omega, ← e] at h
    simp only [ck_Float_m2, Bool.and_eq_true, decide_eq_true_eq] at h
    obtain ⟨h0, h1, h2, h3, h4, h5, h6, h7, h8, h9⟩ := h
    exact (k_X5_bitsOfFloat_m2 l G cI cS cL share h0 h1 h2 h3 h4 h5 h6 h7 h8).conv (by rw [h9]; rfl) (fun H h => h) (fun A h => h)
  rcases Classical.em (2 ≤ n ∧ n ≤ 2) with r | r
  · have h := ck_Float_m1_ok (n - 2) (by omega)
    rw [show 2 + (n - 2) = n by omega, ← e] at h
    simp only [ck_Float_m1, Bool.and_eq_true, decide_eq_true_eq] at h
    obtain ⟨h0, h1, h2, h3, h4, h5, h6, h7⟩ := h
    exact (k_X5_bitsOfFloat_m1 l G cI cS cL share h0 h1 h2 h3 h4 h5 h6).conv (by rw [h7]; rfl) (fun H h => h) (fun A h => h)
  rcases Classical.em (3 ≤ n ∧ n ≤ 5) with r | r
  · have h := ck_Float_0_ok (n - 3) (by omega)
    rw [show 3 + (n - 3) = n by omega, ← e] at h
    simp only [ck_Float_0, Bool.and_eq_true, decide_eq_true_eq] at h
    obtain ⟨h0, h1, h2, h3, h4, h5⟩ := h
    exact (k_X5_bitsOfFloat_0 l G cI cS cL share h0 h1 h2 h3 h4).conv (by rw [h5]; rfl) (fun H h => h) (fun A h => h)
  rcases Classical.em (6 ≤ n ∧ n ≤ 11) with r | r
  · have h := ck_Float_1_ok (n - 6) (by omega)
    rw [show 6 + (n - 6) = n by omega, ← e] at h
    simp only [ck_Float_1, Bool.and_eq_true, decide_eq_true_eq] at h
    obtain ⟨h0, h1, h2, h3, h4, h5, h6, h7⟩ := h
    exact (k_X5_bitsOfFloat_1 l G cI cS cL share h0 h1 h2 h3 h4 h5 h6).conv (by rw [h7]; rfl) (fun H h => h) (fun A h => h)
  rcases Classical.em (12 ≤ n ∧ n ≤ 23) with r | r
  · have h := ck_Float_2_ok (n - 12) (by omega)
    rw [show 12 + (n - 12) = n by omega, ← e] at h
    simp only [ck_Float_2, Bool.and_eq_true, decide_eq_true_eq] at h
    obtain ⟨h0, h1, h2, h3, h4, h5, h6, h7, h8, h9⟩ := h
    exact (k_X5_bitsOfFloat_2 l G cI cS cL share h0 h1 h2 h3 h4 h5 h6 h7 h8).conv (by rw [h9]; rfl) (fun H h => h) (fun A h => h)
  rcases Classical.em (24 ≤ n ∧ n ≤ 47) with r | r
  · have h := ck_Float_3_ok (n - 24) (by omega)
    rw [show 24 + (n - 24) = n by omega, ← e] at h
    simp only [ck_Float_3, Bool.and_eq_true, decide_eq_true_eq] at h
    obtain ⟨h0, h1, h2, h3, h4, h5, h6, h7, h8, h9, h10, h11⟩ := h
    exact (k_X5_bitsOfFloat_3 l G cI cS cL share h0 h1 h2 h3 h4 h5 h6 h7 h8 h9 h10).conv (by rw [h11]; rfl) (fun H h => h) (fun A h => h)
  rcases Classical.em (48 ≤ n ∧ n ≤ 95) with r | r
  · have h := ck_Float_4_ok (n - 48) (by omega)
    rw [show 48 + (n - 48) = n by omega, ← e] at h
    simp only [ck_Float_4, Bool.and_eq_true, decide_eq_true_eq] at h
    obtain ⟨h0, h1, h2, h3, h4, h5, h6, h7, h8, h9, h10, h11, h12, h13⟩ := h
    exact (k_X5_bitsOfFloat_4 l G cI cS cL share h0 h1 h2 h3 h4 h5 h6 h7 h8 h9 h10 h11 h12).conv (by rw [h13]; rfl) (fun H h => h) (fun A h => h)
  rcases Classical.em (96 ≤ n ∧ n ≤ 191) with r | r
  · have h := ck_Float_5_ok (n - 96) (by omega)
    rw [show 96 + (n - 96) = n by omega, ← e] at h
    simp only [ck_Float_5, Bool.and_eq_true, decide_eq_true_eq] at h
    obtain ⟨h0, h1, h2, h3, h4, h5, h6, h7, h8, h9, h10, h11, h12, h13, h14, h15⟩ := h
    exact (k_X5_bitsOfFloat_5 l G cI cS cL share h0 h1 h2 h3 h4 h5 h6 h7 h8 h9 h10 h11 h12 h13 h14).conv (by rw [h15]; rfl) (fun H h => h) (fun A h => h)
  rcases Classical.em (192 ≤ n ∧ n ≤ 383) with r | r
  · have h := ck_Float_6_ok (n - 192) (by omega)
    rw [show 192 + (n - 192) = n by omega, ← e] at h
    simp only [ck_Float_6, Bool.and_eq_true, decide_eq_true_eq] at h
    obtain ⟨h0, h1, h2, h3, h4, h5, h6, h7, h8, h9, h10, h11, h12, h13, h14, h15, h16, h17⟩ := h
    exact (k_X5_bitsOfFloat_6 l G cI cS cL share h0 h1 h2 h3 h4 h5 h6 h7 h8 h9 h10 h11 h12 h13 h14 h15 h16).conv (by rw [h17]; rfl) (fun H h => h) (fun A h => h)
  rcases Classical.em (384 ≤ n ∧ n ≤ 767) with r | r
  · have h := ck_Float_7_ok (n - 384) (by omega)
    rw [show 384 + (n - 384) = n by omega, ← e] at h
    simp only [ck_Float_7, Bool.and_eq_true, decide_eq_true_eq] at h
    obtain ⟨h0, h1, h2, h3, h4, h5, h6, h7, h8, h9, h10, h11, h12, h13, h14, h15, h16, h17, h18, h19⟩ := h
    exact (k_X5_bitsOfFloat_7 l G cI cS cL share h0 h1 h2 h3 h4 h5 h6 h7 h8 h9 h10 h11 h12 h13 h14 h15 h16 h17 h18).conv (by rw [h19]; rfl) (fun H h => h) (fun A h => h)
  rcases Classical.em (768 ≤ n ∧ n ≤ 1500) with r | r
  · have h := ck_Float_8_ok (n - 768) (by omega)
    rw [show 768 + (n - 768) = n by omega, ← e] at h
    simp only [ck_Float_8, Bool.and_eq_true, decide_eq_true_eq] at h
    obtain ⟨h0, h1, h2, h3, h4, h5, h6, h7, h8, h9, h10, h11, h12, h13, h14, h15, h16, h17, h18, h19, h20, h21⟩ := h
    exact (k_X5_bitsOfFloat_8 l G cI cS cL share h0 h1 h2 h3 h4 h5 h6 h7 h8 h9 h10 h11 h12 h13 h14 h15 h16 h17 h18 h19 h20).conv (by rw [h21]; rfl) (fun H h => h) (fun A h => h)
  rcases Classical.em (0 ≤ n ∧ n ≤ 0) with r | r
  · have h := ck_Float_z_ok (n - 0) (by omega)
    rw [show 0 + (n - 0) = n by omega, ← e] at h
    simp only [ck_Float_z, Bool.and_eq_true, decide_eq_true_eq] at h
    obtain ⟨h0, h1⟩ := h
    exact (k_X5_bitsOfFloat_z l G cI cS cL share h0).conv (by rw [h1]; rfl) (fun H h => h) (fun A h => h)
  exfalso; omega
