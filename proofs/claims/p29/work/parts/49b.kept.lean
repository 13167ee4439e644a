set_option maxRecDepth 100000 in
set_option maxHeartbeats 4000000 in
theorem o_kept (l : Launch) (G : va_G) (cI cS cL : ClassId) (ad : Nat → Nat) (mp : Nat) (q qn qt qs qH qx : Nat → Nat) {o : Ob} (hg : Gd o) {bb : Nat} (hbb : bb ≤ 900000) (hI : IA bb (aob o)) : CtO l G (tyl cI cS cL) ad mp yL_kept (Cond.code yL_kept cL_kept 22 (some .boolean)) 7 159 0 0 [.ref (q 0)] [obC q qn qt qs qH qx cI cS ad o].flatten (fun u => aob u = aob o ∧ Gd u) (fun _ => some (.int (1 : Int32))) (fun u => [obC q qn qt qs qH qx cI cS ad u].flatten) := by
  obtain ⟨A, hab⟩ : ∃ A, aob o = A := ⟨_, rfl⟩
  rw [hab] at hI ⊢
  obtain ⟨g, hgl, hgj, hgw⟩ := lows_eq (nt := znt A.1) (se := zse A.1) hI.ns
  refine CtO.of (by decide +kernel) (Nat.le_of_ble_eq_true rfl) ?_
  intro p e s m args below meth c A0 ls hx hb hr hml hw hown hlocks hK hN hC hE hP hD hS hA hl
  have hown : s.vm.findClass RL = some m.cls := hown
  have X : Cx p s m args c cL_kept 22 RL G (tyl cI cS cL) := ⟨hx, hb, hml, hown, hw, hK, hN⟩
  have hP : va_P G classes [obC q qn qt qs qH qx cI cS ad o].flatten s.heap := hP
  have hl : lv_has ls 22 [(0, .ref (q 0))] := hl
  generalize hQQ : MQ below _ args s 0 0 A0 = QQ
  refine lv_aload_n hx hb dL_kept_0 rfl (lv_at hl 0 rfl) ?_
  refine lv_iconst (v := 4) hx hb dL_kept_1 (by decide) ?_
  have hc := oz_count l G cI cS cL ad mp q qn qt qs qH qx (o := o) hg (by rw [hab]; exact hI.ns) (4 : Int32) (by decide)
  rw [hab] at hc
  refine co_callH (As := [.ref (q 0), .int (4 : Int32)]) (rest := []) hE hC X hP hD hS hA hc cpH_count aw_204 ⟨Nat.le_of_ble_eq_true rfl, Nat.le_of_ble_eq_true rfl⟩ [0] (cs := [obC q qn qt qs qH qx cI cS ad o]) rfl (by decide) (fun u => [obC q qn qt qs qH qx cI cS ad u]) (fun _ => rfl) (fun _ => rfl) rfl hl.1 rfl (Nat.le_of_ble_eq_true rfl) dL_kept_2 ⟨Nat.le_of_ble_eq_true rfl, Nat.le_of_ble_eq_true rfl⟩ (st1 := fun _ => [.long (countA A (4 : Int32))]) (fun _ => rfl) (fun u => [obC q qn qt qs qH qx cI cS ad u]) (fun _ => rfl) (fun o ho H locs hP hD hS => ?_)
  obtain ⟨hab, hg⟩ := ho
  refine lv_aload_n hx hb dL_kept_5 rfl (lv_at hl 0 rfl) ?_
  refine lv_iconst (v := 5) hx hb dL_kept_6 (by decide) ?_
  have hc := oz_count l G cI cS cL ad mp q qn qt qs qH qx (o := o) hg (by rw [hab]; exact hI.ns) (5 : Int32) (by decide)
  rw [hab] at hc
  refine co_callH (As := [.ref (q 0), .int (5 : Int32)]) (rest := [.long (countA A (4 : Int32))]) hE hC X hP hD hS hA hc cpH_count aw_204 ⟨Nat.le_of_ble_eq_true rfl, Nat.le_of_ble_eq_true rfl⟩ [0] (cs := [obC q qn qt qs qH qx cI cS ad o]) rfl (by decide) (fun u => [obC q qn qt qs qH qx cI cS ad u]) (fun _ => rfl) (fun _ => rfl) rfl hl.1 rfl (Nat.le_of_ble_eq_true rfl) dL_kept_7 ⟨Nat.le_of_ble_eq_true rfl, Nat.le_of_ble_eq_true rfl⟩ (st1 := fun _ => [.long (countA A (5 : Int32)), .long (countA A (4 : Int32))]) (fun _ => rfl) (fun u => [obC q qn qt qs qH qx cI cS ad u]) (fun _ => rfl) (fun o ho H locs hP hD hS => ?_)
  obtain ⟨hab, hg⟩ := ho
  refine W.lcmp hx hb dL_kept_10 ?_
  refine iv_ifne hx hb 80 dL_kept_11 (by decide) (fun c => absurd (k_45 hI) c) (fun _ => ?_)
  refine lv_aload_n hx hb dL_kept_14 rfl (lv_at hl 0 rfl) ?_
  refine lv_bipush (v := 6) hx hb dL_kept_15 (by decide) ?_
  have hc := oz_count l G cI cS cL ad mp q qn qt qs qH qx (o := o) hg (by rw [hab]; exact hI.ns) (6 : Int32) (by decide)
  rw [hab] at hc
  refine co_callH (As := [.ref (q 0), .int (6 : Int32)]) (rest := []) hE hC X hP hD hS hA hc cpH_count aw_204 ⟨Nat.le_of_ble_eq_true rfl, Nat.le_of_ble_eq_true rfl⟩ [0] (cs := [obC q qn qt qs qH qx cI cS ad o]) rfl (by decide) (fun u => [obC q qn qt qs qH qx cI cS ad u]) (fun _ => rfl) (fun _ => rfl) rfl hl.1 rfl (Nat.le_of_ble_eq_true rfl) dL_kept_17 ⟨Nat.le_of_ble_eq_true rfl, Nat.le_of_ble_eq_true rfl⟩ (st1 := fun _ => [.long (countA A (6 : Int32))]) (fun _ => rfl) (fun u => [obC q qn qt qs qH qx cI cS ad u]) (fun _ => rfl) (fun o ho H locs hP hD hS => ?_)
  obtain ⟨hab, hg⟩ := ho
  refine lv_lconst (v := 1) hx hb dL_kept_20 (by decide) ?_
  refine lv_ldc2 hx hb hown (hw _ aw_666) dL_kept_21 ?_
  refine ct_callS (As := [.long (countA A (6 : Int32)), .long (1 : Int64), .long (8 : Int64)]) (rest := []) X hP hD hS hA (k_L_in l G cI cS cL (countA A (6 : Int32)) (1 : Int64) (8 : Int64)) cpS_in aw_667 ⟨Nat.le_of_ble_eq_true rfl, Nat.le_of_ble_eq_true rfl⟩ [] (cs := []) rfl (by decide) (cs' := []) rfl rfl rfl hl.1 rfl (Nat.le_of_ble_eq_true rfl) dL_kept_24 ⟨Nat.le_of_ble_eq_true rfl, Nat.le_of_ble_eq_true rfl⟩ rfl (bs' := [obC q qn qt qs qH qx cI cS ad o]) rfl (fun H locs hP hD hS => ?_)
  refine lv_if_eq (tgt := 80) hx hb dL_kept_27 (by decide) (fun c => absurd c (in_nz k_6)) (fun _ => ?_)
  refine lv_aload_n hx hb dL_kept_30 rfl (lv_at hl 0 rfl) ?_
  refine lv_bipush (v := 8) hx hb dL_kept_31 (by decide) ?_
  have hc := oz_count l G cI cS cL ad mp q qn qt qs qH qx (o := o) hg (by rw [hab]; exact hI.ns) (8 : Int32) (by decide)
  rw [hab] at hc
  refine co_callH (As := [.ref (q 0), .int (8 : Int32)]) (rest := []) hE hC X hP hD hS hA hc cpH_count aw_204 ⟨Nat.le_of_ble_eq_true rfl, Nat.le_of_ble_eq_true rfl⟩ [0] (cs := [obC q qn qt qs qH qx cI cS ad o]) rfl (by decide) (fun u => [obC q qn qt qs qH qx cI cS ad u]) (fun _ => rfl) (fun _ => rfl) rfl hl.1 rfl (Nat.le_of_ble_eq_true rfl) dL_kept_33 ⟨Nat.le_of_ble_eq_true rfl, Nat.le_of_ble_eq_true rfl⟩ (st1 := fun _ => [.long (countA A (8 : Int32))]) (fun _ => rfl) (fun u => [obC q qn qt qs qH qx cI cS ad u]) (fun _ => rfl) (fun o ho H locs hP hD hS => ?_)
  obtain ⟨hab, hg⟩ := ho
  refine lv_aload_n hx hb dL_kept_36 rfl (lv_at hl 0 rfl) ?_
  refine lv_iconst (v := 1) hx hb dL_kept_37 (by decide) ?_
  have hc := oz_count l G cI cS cL ad mp q qn qt qs qH qx (o := o) hg (by rw [hab]; exact hI.ns) (1 : Int32) (by decide)
  rw [hab] at hc
  refine co_callH (As := [.ref (q 0), .int (1 : Int32)]) (rest := [.long (countA A (8 : Int32))]) hE hC X hP hD hS hA hc cpH_count aw_204 ⟨Nat.le_of_ble_eq_true rfl, Nat.le_of_ble_eq_true rfl⟩ [0] (cs := [obC q qn qt qs qH qx cI cS ad o]) rfl (by decide) (fun u => [obC q qn qt qs qH qx cI cS ad u]) (fun _ => rfl) (fun _ => rfl) rfl hl.1 rfl (Nat.le_of_ble_eq_true rfl) dL_kept_38 ⟨Nat.le_of_ble_eq_true rfl, Nat.le_of_ble_eq_true rfl⟩ (st1 := fun _ => [.long (countA A (1 : Int32)), .long (countA A (8 : Int32))]) (fun _ => rfl) (fun u => [obC q qn qt qs qH qx cI cS ad u]) (fun _ => rfl) (fun o ho H locs hP hD hS => ?_)
  obtain ⟨hab, hg⟩ := ho
  refine W.lcmp hx hb dL_kept_41 ?_
  refine lv_if_gt (tgt := 80) hx hb dL_kept_42 (by decide) (fun c => absurd c (k_81 hbb hI)) (fun _ => ?_)
  refine lv_aload_n hx hb dL_kept_45 rfl (lv_at hl 0 rfl) ?_
  refine lv_bipush (v := 8) hx hb dL_kept_46 (by decide) ?_
  have hc := oz_count l G cI cS cL ad mp q qn qt qs qH qx (o := o) hg (by rw [hab]; exact hI.ns) (8 : Int32) (by decide)
  rw [hab] at hc
  refine co_callH (As := [.ref (q 0), .int (8 : Int32)]) (rest := []) hE hC X hP hD hS hA hc cpH_count aw_204 ⟨Nat.le_of_ble_eq_true rfl, Nat.le_of_ble_eq_true rfl⟩ [0] (cs := [obC q qn qt qs qH qx cI cS ad o]) rfl (by decide) (fun u => [obC q qn qt qs qH qx cI cS ad u]) (fun _ => rfl) (fun _ => rfl) rfl hl.1 rfl (Nat.le_of_ble_eq_true rfl) dL_kept_48 ⟨Nat.le_of_ble_eq_true rfl, Nat.le_of_ble_eq_true rfl⟩ (st1 := fun _ => [.long (countA A (8 : Int32))]) (fun _ => rfl) (fun u => [obC q qn qt qs qH qx cI cS ad u]) (fun _ => rfl) (fun o ho H locs hP hD hS => ?_)
  obtain ⟨hab, hg⟩ := ho
  refine lv_aload_n hx hb dL_kept_51 rfl (lv_at hl 0 rfl) ?_
  refine lv_iconst (v := 0) hx hb dL_kept_52 (by decide) ?_
  have hc := oz_count l G cI cS cL ad mp q qn qt qs qH qx (o := o) hg (by rw [hab]; exact hI.ns) (0 : Int32) (by decide)
  rw [hab] at hc
  refine co_callH (As := [.ref (q 0), .int (0 : Int32)]) (rest := [.long (countA A (8 : Int32))]) hE hC X hP hD hS hA hc cpH_count aw_204 ⟨Nat.le_of_ble_eq_true rfl, Nat.le_of_ble_eq_true rfl⟩ [0] (cs := [obC q qn qt qs qH qx cI cS ad o]) rfl (by decide) (fun u => [obC q qn qt qs qH qx cI cS ad u]) (fun _ => rfl) (fun _ => rfl) rfl hl.1 rfl (Nat.le_of_ble_eq_true rfl) dL_kept_53 ⟨Nat.le_of_ble_eq_true rfl, Nat.le_of_ble_eq_true rfl⟩ (st1 := fun _ => [.long (countA A (0 : Int32)), .long (countA A (8 : Int32))]) (fun _ => rfl) (fun u => [obC q qn qt qs qH qx cI cS ad u]) (fun _ => rfl) (fun o ho H locs hP hD hS => ?_)
  obtain ⟨hab, hg⟩ := ho
  refine W.lcmp hx hb dL_kept_56 ?_
  refine lv_if_gt (tgt := 80) hx hb dL_kept_57 (by decide) (fun c => absurd c (k_80 hI)) (fun _ => ?_)
  refine lv_aload_n hx hb dL_kept_60 rfl (lv_at hl 0 rfl) ?_
  refine lv_bipush (v := 9) hx hb dL_kept_61 (by decide) ?_
  have hc := oz_count l G cI cS cL ad mp q qn qt qs qH qx (o := o) hg (by rw [hab]; exact hI.ns) (9 : Int32) (by decide)
  rw [hab] at hc
  refine co_callH (As := [.ref (q 0), .int (9 : Int32)]) (rest := []) hE hC X hP hD hS hA hc cpH_count aw_204 ⟨Nat.le_of_ble_eq_true rfl, Nat.le_of_ble_eq_true rfl⟩ [0] (cs := [obC q qn qt qs qH qx cI cS ad o]) rfl (by decide) (fun u => [obC q qn qt qs qH qx cI cS ad u]) (fun _ => rfl) (fun _ => rfl) rfl hl.1 rfl (Nat.le_of_ble_eq_true rfl) dL_kept_63 ⟨Nat.le_of_ble_eq_true rfl, Nat.le_of_ble_eq_true rfl⟩ (st1 := fun _ => [.long (countA A (9 : Int32))]) (fun _ => rfl) (fun u => [obC q qn qt qs qH qx cI cS ad u]) (fun _ => rfl) (fun o ho H locs hP hD hS => ?_)
  obtain ⟨hab, hg⟩ := ho
  refine lv_lconst (v := 0) hx hb dL_kept_66 (by decide) ?_
  refine lv_ldc2 hx hb hown (hw _ aw_670) dL_kept_67 ?_
  refine ct_callS (As := [.long (countA A (9 : Int32)), .long (0 : Int64), .long (6 : Int64)]) (rest := []) X hP hD hS hA (k_L_in l G cI cS cL (countA A (9 : Int32)) (0 : Int64) (6 : Int64)) cpS_in aw_667 ⟨Nat.le_of_ble_eq_true rfl, Nat.le_of_ble_eq_true rfl⟩ [] (cs := []) rfl (by decide) (cs' := []) rfl rfl rfl hl.1 rfl (Nat.le_of_ble_eq_true rfl) dL_kept_70 ⟨Nat.le_of_ble_eq_true rfl, Nat.le_of_ble_eq_true rfl⟩ rfl (bs' := [obC q qn qt qs qH qx cI cS ad o]) rfl (fun H locs hP hD hS => ?_)
  refine lv_if_eq (tgt := 80) hx hb dL_kept_73 (by decide) (fun c => absurd c (in_nz (k_9 hI))) (fun _ => ?_)
  refine lv_iconst (v := 1) hx hb dL_kept_76 (by decide) ?_
  refine lv_goto (tgt := 81) hx hb dL_kept_77 (by decide) ?_
  refine lv_istore_n (lv' := [(1, .int (1 : Int32)), (0, .ref (q 0))]) hx hb dL_kept_81 rfl hl (by decide) rfl (fun ls hl => ?_)
  refine lv_iconst (v := 0) hx hb dL_kept_82 (by decide) ?_
  refine lv_istore_n (lv' := [(2, .int (0 : Int32)), (1, .int (1 : Int32)), (0, .ref (q 0))]) hx hb dL_kept_83 rfl hl (by decide) rfl (fun ls hl => ?_)
  refine lv_iconst (v := 0) hx hb dL_kept_84 (by decide) ?_
  refine lv_istore_n (lv' := [(3, .int (0 : Int32)), (2, .int (0 : Int32)), (1, .int (1 : Int32)), (0, .ref (q 0))]) hx hb dL_kept_85 rfl hl (by decide) rfl (fun ls hl => ?_)
  refine lv_iconst (v := 0) hx hb dL_kept_86 (by decide) ?_
  refine lv_istore (lv' := [(4, .int (0 : Int32)), (3, .int (0 : Int32)), (2, .int (0 : Int32)), (1, .int (1 : Int32)), (0, .ref (q 0))]) hx hb dL_kept_87 hl (by decide) rfl (fun ls hl => ?_)
  refine lv_lconst (v := 0) hx hb dL_kept_89 (by decide) ?_
  refine lv_lstore (lv' := [(5, .long (0 : Int64)), (4, .int (0 : Int32)), (3, .int (0 : Int32)), (2, .int (0 : Int32)), (1, .int (1 : Int32)), (0, .ref (q 0))]) hx hb dL_kept_90 hl (by decide) rfl (fun ls hl => ?_)
  refine lv_iconst (v := 0) hx hb dL_kept_92 (by decide) ?_
  refine lv_istore (lv' := [(7, .int (0 : Int32)), (5, .long (0 : Int64)), (4, .int (0 : Int32)), (3, .int (0 : Int32)), (2, .int (0 : Int32)), (1, .int (1 : Int32)), (0, .ref (q 0))]) hx hb dL_kept_93 hl (by decide) rfl (fun ls hl => ?_)
  have lp95 : ∀ (n k95 : Nat), k95 + n = 3 → ∀ (o : Ob) (hab : aob o = A) (hg : Gd o) (H : Heap) (locs : List Loc) (ls : Array Slot), va_P G classes [obC q qn qt qs qH qx cI cS ad o].flatten H → va_D A0 [obC q qn qt qs qH qx cI cS ad o].flatten → va_S A0 s.heap H locs → lv_has ls 22 [(7, .int (nI k95)), (2, .int (um (zbm A.1) k95)), (0, .ref (q 0)), (1, .int (1 : Int32)), (3, .int (0 : Int32)), (4, .int (0 : Int32)), (5, .long (0 : Int64))] → W p l e ({ frames := 7, cells := 0, slots := 0, locals := 159 } : Room) s m args below meth c H locs 0 0 QQ (F0 m 95 ls []) := by
    intro n
    induction n with
    | zero =>
      intro k95 hk
      have hkN : k95 = 3 := by omega
      rw [hkN]
      intro o hab hg H locs ls hP hD hS hl
      refine lv_iload hx hb dL_kept_95 (lv_at hl 0 rfl) ?_
      refine lv_iconst (v := 3) hx hb dL_kept_97 (by decide) ?_
      refine nv_ge hx hb 3 3 182 (by omega) (by omega) dL_kept_98 (by decide) (fun _ => ?_) (fun c => absurd (Nat.le_refl _) c)
      refine lv_iload_n hx hb dL_kept_182 rfl (lv_at hl 3 rfl) ?_
      refine lv_if_eq (tgt := 197) hx hb dL_kept_183 (by decide) (fun c => absurd c (by decide)) (fun _ => ?_)
      refine lv_iload_n hx hb dL_kept_186 rfl (lv_at hl 1 rfl) ?_
      refine lv_sipush (v := 255) hx hb dL_kept_187 (by decide) ?_
      refine iv_ne hx hb 197 dL_kept_190 (by decide) (fun c => absurd (um_all hI.1.1) c) (fun _ => ?_)
      refine lv_iconst (v := 1) hx hb dL_kept_193 (by decide) ?_
      refine lv_goto (tgt := 198) hx hb dL_kept_194 (by decide) ?_
      refine lv_istore_n (lv' := [(1, .int (1 : Int32)), (7, .int (nI 3)), (2, .int (um (zbm A.1) 3)), (0, .ref (q 0)), (3, .int (0 : Int32)), (4, .int (0 : Int32)), (5, .long (0 : Int64))]) hx hb dL_kept_198 rfl hl (by decide) rfl (fun ls hl => ?_)
      refine lv_iconst (v := 0) hx hb dL_kept_199 (by decide) ?_
      refine lv_istore (lv' := [(7, .int (0 : Int32)), (1, .int (1 : Int32)), (2, .int (um (zbm A.1) 3)), (0, .ref (q 0)), (3, .int (0 : Int32)), (4, .int (0 : Int32)), (5, .long (0 : Int64))]) hx hb dL_kept_200 hl (by decide) rfl (fun ls hl => ?_)
      have lp202 : ∀ (n k202 : Nat), k202 + n = 8 → ∀ (o : Ob) (hab : aob o = A) (hg : Gd o) (H : Heap) (locs : List Loc) (ls : Array Slot), va_P G classes [obC q qn qt qs qH qx cI cS ad o].flatten H → va_D A0 [obC q qn qt qs qH qx cI cS ad o].flatten → va_S A0 s.heap H locs → lv_has ls 22 [(7, .int (nI k202)), (3, .int (nI ((dsum (AL (znt A.1) (zse A.1)) k202)))), (4, .int (nI ((cnt (fun j => decide (g j = j)) 0 k202)))), (5, .long (stS (zst A.1) k202)), (0, .ref (q 0)), (1, .int (1 : Int32))] → W p l e ({ frames := 7, cells := 0, slots := 0, locals := 159 } : Room) s m args below meth c H locs 0 0 QQ (F0 m 202 ls []) := by
        intro n
        induction n with
        | zero =>
          intro k202 hk
          have hkN : k202 = 8 := by omega
          rw [hkN]
          intro o hab hg H locs ls hP hD hS hl
          refine lv_iload hx hb dL_kept_202 (lv_at hl 0 rfl) ?_
          refine lv_bipush (v := 8) hx hb dL_kept_204 (by decide) ?_
          refine nv_ge hx hb 8 8 733 (by omega) (by omega) dL_kept_206 (by decide) (fun _ => ?_) (fun c => absurd (Nat.le_refl _) c)
          refine lv_iload_n hx hb dL_kept_733 rfl (lv_at hl 5 rfl) ?_
          refine lv_if_eq (tgt := 779) hx hb dL_kept_734 (by decide) (fun c => absurd c (by decide)) (fun _ => ?_)
          refine lv_lload hx hb dL_kept_737 (lv_at hl 3 rfl) ?_
          refine lv_aload_n hx hb dL_kept_739 rfl (lv_at hl 4 rfl) ?_
          refine lv_iconst (v := 1) hx hb dL_kept_740 (by decide) ?_
          have hc := oz_count l G cI cS cL ad mp q qn qt qs qH qx (o := o) hg (by rw [hab]; exact hI.ns) (1 : Int32) (by decide)
          rw [hab] at hc
          refine co_callH (As := [.ref (q 0), .int (1 : Int32)]) (rest := [.long (stS (zst A.1) 8)]) hE hC X hP hD hS hA hc cpH_count aw_204 ⟨Nat.le_of_ble_eq_true rfl, Nat.le_of_ble_eq_true rfl⟩ [0] (cs := [obC q qn qt qs qH qx cI cS ad o]) rfl (by decide) (fun u => [obC q qn qt qs qH qx cI cS ad u]) (fun _ => rfl) (fun _ => rfl) rfl hl.1 rfl (Nat.le_of_ble_eq_true rfl) dL_kept_741 ⟨Nat.le_of_ble_eq_true rfl, Nat.le_of_ble_eq_true rfl⟩ (st1 := fun _ => [.long (countA A (1 : Int32)), .long (stS (zst A.1) 8)]) (fun _ => rfl) (fun u => [obC q qn qt qs qH qx cI cS ad u]) (fun _ => rfl) (fun o ho H locs hP hD hS => ?_)
          obtain ⟨hab, hg⟩ := ho
          refine W.lcmp hx hb dL_kept_744 ?_
          refine iv_ifne hx hb 779 dL_kept_745 (by decide) (fun c => absurd (e_st hbb hI) c) (fun _ => ?_)
          refine lv_ldc2 hx hb hown (hw _ aw_679) dL_kept_748 ?_
          refine lv_aload_n hx hb dL_kept_751 rfl (lv_at hl 4 rfl) ?_
          refine lv_iconst (v := 3) hx hb dL_kept_752 (by decide) ?_
          have hc := oz_count l G cI cS cL ad mp q qn qt qs qH qx (o := o) hg (by rw [hab]; exact hI.ns) (3 : Int32) (by decide)
          rw [hab] at hc
          refine co_callH (As := [.ref (q 0), .int (3 : Int32)]) (rest := [.long (2 : Int64)]) hE hC X hP hD hS hA hc cpH_count aw_204 ⟨Nat.le_of_ble_eq_true rfl, Nat.le_of_ble_eq_true rfl⟩ [0] (cs := [obC q qn qt qs qH qx cI cS ad o]) rfl (by decide) (fun u => [obC q qn qt qs qH qx cI cS ad u]) (fun _ => rfl) (fun _ => rfl) rfl hl.1 rfl (Nat.le_of_ble_eq_true rfl) dL_kept_753 ⟨Nat.le_of_ble_eq_true rfl, Nat.le_of_ble_eq_true rfl⟩ (st1 := fun _ => [.long (countA A (3 : Int32)), .long (2 : Int64)]) (fun _ => rfl) (fun u => [obC q qn qt qs qH qx cI cS ad u]) (fun _ => rfl) (fun o ho H locs hP hD hS => ?_)
          obtain ⟨hab, hg⟩ := ho
          refine lv_lmul hx hb dL_kept_756 ?_
          refine lv_iload_n hx hb dL_kept_757 rfl (lv_at hl 1 rfl) ?_
          refine lv_i2l hx hb dL_kept_758 rfl ?_
          refine W.lcmp hx hb dL_kept_759 ?_
          refine iv_ifne hx hb 779 dL_kept_760 (by decide) (fun c => absurd (e_pr hI) c) (fun _ => ?_)
          refine lv_aload_n hx hb dL_kept_763 rfl (lv_at hl 4 rfl) ?_
          refine lv_iconst (v := 4) hx hb dL_kept_764 (by decide) ?_
          have hc := oz_count l G cI cS cL ad mp q qn qt qs qH qx (o := o) hg (by rw [hab]; exact hI.ns) (4 : Int32) (by decide)
          rw [hab] at hc
          refine co_callH (As := [.ref (q 0), .int (4 : Int32)]) (rest := []) hE hC X hP hD hS hA hc cpH_count aw_204 ⟨Nat.le_of_ble_eq_true rfl, Nat.le_of_ble_eq_true rfl⟩ [0] (cs := [obC q qn qt qs qH qx cI cS ad o]) rfl (by decide) (fun u => [obC q qn qt qs qH qx cI cS ad u]) (fun _ => rfl) (fun _ => rfl) rfl hl.1 rfl (Nat.le_of_ble_eq_true rfl) dL_kept_765 ⟨Nat.le_of_ble_eq_true rfl, Nat.le_of_ble_eq_true rfl⟩ (st1 := fun _ => [.long (countA A (4 : Int32))]) (fun _ => rfl) (fun u => [obC q qn qt qs qH qx cI cS ad u]) (fun _ => rfl) (fun o ho H locs hP hD hS => ?_)
          obtain ⟨hab, hg⟩ := ho
          refine lv_iload hx hb dL_kept_768 (lv_at hl 2 rfl) ?_
          refine lv_i2l hx hb dL_kept_770 rfl ?_
          refine W.lcmp hx hb dL_kept_771 ?_
          refine iv_ifne hx hb 779 dL_kept_772 (by decide) (fun c => absurd (e_lo hgj) c) (fun _ => ?_)
          refine lv_iconst (v := 1) hx hb dL_kept_775 (by decide) ?_
          refine lv_goto (tgt := 780) hx hb dL_kept_776 (by decide) ?_
          rw [← hQQ]
          exact W.zret (v := (1 : Int32)) hx hb hr rfl (ct_endO o ⟨hab, hg⟩ rfl hP hD hS) hS.2.2 dL_kept_780
        | succ n ih202 =>
          intro k202 hk o hab hg H locs ls hP hD hS hl
          have hlt202 : k202 < 8 := by omega
          refine lv_iload hx hb dL_kept_202 (lv_at hl 0 rfl) ?_
          refine lv_bipush (v := 8) hx hb dL_kept_204 (by decide) ?_
          refine nv_ge hx hb k202 8 733 (by omega) (by omega) dL_kept_206 (by decide) (fun c => absurd c (by omega)) (fun _ => ?_)
          refine lv_iload_n hx hb dL_kept_209 rfl (lv_at hl 5 rfl) ?_
          refine lv_if_eq (tgt := 733) hx hb dL_kept_210 (by decide) (fun c => absurd c (by decide)) (fun _ => ?_)
          refine lv_aload_n hx hb dL_kept_213 rfl (lv_at hl 4 rfl) ?_
          refine lv_iload hx hb dL_kept_214 (lv_at hl 0 rfl) ?_
          refine lv_iconst (v := 2) hx hb dL_kept_216 (by decide) ?_
          have hc := oz_clock l G cI cS cL ad mp q qn qt qs qH qx (o := o) hg (nI k202) (2 : Int32) (clk_ok hlt202) (by decide)
          rw [hab] at hc
          refine co_callH (As := [.ref (q 0), .int (nI k202), .int (2 : Int32)]) (rest := []) hE hC X hP hD hS hA hc cpH_clock aw_341 ⟨Nat.le_of_ble_eq_true rfl, Nat.le_of_ble_eq_true rfl⟩ [0] (cs := [obC q qn qt qs qH qx cI cS ad o]) rfl (by decide) (fun u => [obC q qn qt qs qH qx cI cS ad u]) (fun _ => rfl) (fun _ => rfl) rfl hl.1 rfl (Nat.le_of_ble_eq_true rfl) dL_kept_217 ⟨Nat.le_of_ble_eq_true rfl, Nat.le_of_ble_eq_true rfl⟩ (st1 := fun _ => [.long (clockA A (nI k202) (2 : Int32))]) (fun _ => rfl) (fun u => [obC q qn qt qs qH qx cI cS ad u]) (fun _ => rfl) (fun o ho H locs hP hD hS => ?_)
          obtain ⟨hab, hg⟩ := ho
          refine lv_lstore (lv' := [(8, .long (clockA A (nI k202) (2 : Int32))), (7, .int (nI k202)), (3, .int (nI ((dsum (AL (znt A.1) (zse A.1)) k202)))), (4, .int (nI ((cnt (fun j => decide (g j = j)) 0 k202)))), (5, .long (stS (zst A.1) k202)), (0, .ref (q 0)), (1, .int (1 : Int32))]) hx hb dL_kept_220 hl (by decide) rfl (fun ls hl => ?_)
          refine lv_aload_n hx hb dL_kept_222 rfl (lv_at hl 5 rfl) ?_
          refine lv_iload hx hb dL_kept_223 (lv_at hl 1 rfl) ?_
          refine lv_bipush (v := 6) hx hb dL_kept_225 (by decide) ?_
          have hc := oz_clock l G cI cS cL ad mp q qn qt qs qH qx (o := o) hg (nI k202) (6 : Int32) (clk_ok hlt202) (by decide)
          rw [hab] at hc
          refine co_callH (As := [.ref (q 0), .int (nI k202), .int (6 : Int32)]) (rest := []) hE hC X hP hD hS hA hc cpH_clock aw_341 ⟨Nat.le_of_ble_eq_true rfl, Nat.le_of_ble_eq_true rfl⟩ [0] (cs := [obC q qn qt qs qH qx cI cS ad o]) rfl (by decide) (fun u => [obC q qn qt qs qH qx cI cS ad u]) (fun _ => rfl) (fun _ => rfl) rfl hl.1 rfl (Nat.le_of_ble_eq_true rfl) dL_kept_227 ⟨Nat.le_of_ble_eq_true rfl, Nat.le_of_ble_eq_true rfl⟩ (st1 := fun _ => [.long (clockA A (nI k202) (6 : Int32))]) (fun _ => rfl) (fun u => [obC q qn qt qs qH qx cI cS ad u]) (fun _ => rfl) (fun o ho H locs hP hD hS => ?_)
          obtain ⟨hab, hg⟩ := ho
          refine lv_lstore (lv' := [(10, .long (clockA A (nI k202) (6 : Int32))), (8, .long (clockA A (nI k202) (2 : Int32))), (7, .int (nI k202)), (3, .int (nI ((dsum (AL (znt A.1) (zse A.1)) k202)))), (4, .int (nI ((cnt (fun j => decide (g j = j)) 0 k202)))), (5, .long (stS (zst A.1) k202)), (0, .ref (q 0)), (1, .int (1 : Int32))]) hx hb dL_kept_230 hl (by decide) rfl (fun ls hl => ?_)
          refine lv_aload_n hx hb dL_kept_232 rfl (lv_at hl 6 rfl) ?_
          refine lv_iload hx hb dL_kept_233 (lv_at hl 2 rfl) ?_
          refine lv_bipush (v := 10) hx hb dL_kept_235 (by decide) ?_
          have hc := oz_clock l G cI cS cL ad mp q qn qt qs qH qx (o := o) hg (nI k202) (10 : Int32) (clk_ok hlt202) (by decide)
          rw [hab] at hc
          refine co_callH (As := [.ref (q 0), .int (nI k202), .int (10 : Int32)]) (rest := []) hE hC X hP hD hS hA hc cpH_clock aw_341 ⟨Nat.le_of_ble_eq_true rfl, Nat.le_of_ble_eq_true rfl⟩ [0] (cs := [obC q qn qt qs qH qx cI cS ad o]) rfl (by decide) (fun u => [obC q qn qt qs qH qx cI cS ad u]) (fun _ => rfl) (fun _ => rfl) rfl hl.1 rfl (Nat.le_of_ble_eq_true rfl) dL_kept_237 ⟨Nat.le_of_ble_eq_true rfl, Nat.le_of_ble_eq_true rfl⟩ (st1 := fun _ => [.long (clockA A (nI k202) (10 : Int32))]) (fun _ => rfl) (fun u => [obC q qn qt qs qH qx cI cS ad u]) (fun _ => rfl) (fun o ho H locs hP hD hS => ?_)
          obtain ⟨hab, hg⟩ := ho
          refine lv_lstore (lv' := [(12, .long (clockA A (nI k202) (10 : Int32))), (10, .long (clockA A (nI k202) (6 : Int32))), (8, .long (clockA A (nI k202) (2 : Int32))), (7, .int (nI k202)), (3, .int (nI ((dsum (AL (znt A.1) (zse A.1)) k202)))), (4, .int (nI ((cnt (fun j => decide (g j = j)) 0 k202)))), (5, .long (stS (zst A.1) k202)), (0, .ref (q 0)), (1, .int (1 : Int32))]) hx hb dL_kept_240 hl (by decide) rfl (fun ls hl => ?_)
          refine lv_aload_n hx hb dL_kept_242 rfl (lv_at hl 7 rfl) ?_
          refine lv_iload hx hb dL_kept_243 (lv_at hl 3 rfl) ?_
          refine lv_bipush (v := 8) hx hb dL_kept_245 (by decide) ?_
          have hc := oz_clock l G cI cS cL ad mp q qn qt qs qH qx (o := o) hg (nI k202) (8 : Int32) (clk_ok hlt202) (by decide)
          rw [hab] at hc
          refine co_callH (As := [.ref (q 0), .int (nI k202), .int (8 : Int32)]) (rest := []) hE hC X hP hD hS hA hc cpH_clock aw_341 ⟨Nat.le_of_ble_eq_true rfl, Nat.le_of_ble_eq_true rfl⟩ [0] (cs := [obC q qn qt qs qH qx cI cS ad o]) rfl (by decide) (fun u => [obC q qn qt qs qH qx cI cS ad u]) (fun _ => rfl) (fun _ => rfl) rfl hl.1 rfl (Nat.le_of_ble_eq_true rfl) dL_kept_247 ⟨Nat.le_of_ble_eq_true rfl, Nat.le_of_ble_eq_true rfl⟩ (st1 := fun _ => [.long (clockA A (nI k202) (8 : Int32))]) (fun _ => rfl) (fun u => [obC q qn qt qs qH qx cI cS ad u]) (fun _ => rfl) (fun o ho H locs hP hD hS => ?_)
          obtain ⟨hab, hg⟩ := ho
          refine lv_lstore (lv' := [(14, .long (clockA A (nI k202) (8 : Int32))), (12, .long (clockA A (nI k202) (10 : Int32))), (10, .long (clockA A (nI k202) (6 : Int32))), (8, .long (clockA A (nI k202) (2 : Int32))), (7, .int (nI k202)), (3, .int (nI ((dsum (AL (znt A.1) (zse A.1)) k202)))), (4, .int (nI ((cnt (fun j => decide (g j = j)) 0 k202)))), (5, .long (stS (zst A.1) k202)), (0, .ref (q 0)), (1, .int (1 : Int32))]) hx hb dL_kept_250 hl (by decide) rfl (fun ls hl => ?_)
          refine lv_lload hx hb dL_kept_252 (lv_at hl 7 rfl) ?_
          refine lv_aload_n hx hb dL_kept_254 rfl (lv_at hl 8 rfl) ?_
          refine lv_iload hx hb dL_kept_255 (lv_at hl 4 rfl) ?_
          refine lv_iconst (v := 4) hx hb dL_kept_257 (by decide) ?_
          have hc := oz_clock l G cI cS cL ad mp q qn qt qs qH qx (o := o) hg (nI k202) (4 : Int32) (clk_ok hlt202) (by decide)
          rw [hab] at hc
          refine co_callH (As := [.ref (q 0), .int (nI k202), .int (4 : Int32)]) (rest := [.long (stS (zst A.1) k202)]) hE hC X hP hD hS hA hc cpH_clock aw_341 ⟨Nat.le_of_ble_eq_true rfl, Nat.le_of_ble_eq_true rfl⟩ [0] (cs := [obC q qn qt qs qH qx cI cS ad o]) rfl (by decide) (fun u => [obC q qn qt qs qH qx cI cS ad u]) (fun _ => rfl) (fun _ => rfl) rfl hl.1 rfl (Nat.le_of_ble_eq_true rfl) dL_kept_258 ⟨Nat.le_of_ble_eq_true rfl, Nat.le_of_ble_eq_true rfl⟩ (st1 := fun _ => [.long (clockA A (nI k202) (4 : Int32)), .long (stS (zst A.1) k202)]) (fun _ => rfl) (fun u => [obC q qn qt qs qH qx cI cS ad u]) (fun _ => rfl) (fun o ho H locs hP hD hS => ?_)
          obtain ⟨hab, hg⟩ := ho
          refine lv_ladd hx hb dL_kept_261 ?_
          refine W.eq (g2 := F0 m 262 ls [.long (stS (zst A.1) (k202 + 1))]) (by rw [s_st hlt202] <;> rfl) ?_
          refine lv_lstore (lv' := [(5, .long (stS (zst A.1) (k202 + 1))), (14, .long (clockA A (nI k202) (8 : Int32))), (12, .long (clockA A (nI k202) (10 : Int32))), (10, .long (clockA A (nI k202) (6 : Int32))), (8, .long (clockA A (nI k202) (2 : Int32))), (7, .int (nI k202)), (3, .int (nI ((dsum (AL (znt A.1) (zse A.1)) k202)))), (4, .int (nI ((cnt (fun j => decide (g j = j)) 0 k202)))), (0, .ref (q 0)), (1, .int (1 : Int32))]) hx hb dL_kept_262 hl (by decide) rfl (fun ls hl => ?_)
          have m289 : ∀ (o : Ob) (hab : aob o = A) (hg : Gd o) (H : Heap) (locs : List Loc) (ls : Array Slot), va_P G classes [obC q qn qt qs qH qx cI cS ad o].flatten H → va_D A0 [obC q qn qt qs qH qx cI cS ad o].flatten → va_S A0 s.heap H locs → lv_has ls 22 [(0, .ref (q 0)), (1, .int (1 : Int32)), (3, .int (nI ((dsum (AL (znt A.1) (zse A.1)) k202)))), (4, .int (nI ((cnt (fun j => decide (g j = j)) 0 (k202 + 1))))), (5, .long (stS (zst A.1) (k202 + 1))), (7, .int (nI k202)), (8, .long (clockA A (nI k202) (2 : Int32))), (10, .long (clockA A (nI k202) (6 : Int32))), (12, .long (clockA A (nI k202) (10 : Int32))), (14, .long (clockA A (nI k202) (8 : Int32)))] → W p l e ({ frames := 7, cells := 0, slots := 0, locals := 159 } : Room) s m args below meth c H locs 0 0 QQ (F0 m 289 ls []) := by
            intro o hab hg H locs ls hP hD hS hl
            refine lv_lload hx hb dL_kept_289 (lv_at hl 6 rfl) ?_
            refine lv_lconst (v := 0) hx hb dL_kept_291 (by decide) ?_
            refine lv_ldc2 hx hb hown (hw _ aw_673) dL_kept_292 ?_
            refine ct_callS (As := [.long (clockA A (nI k202) (2 : Int32)), .long (0 : Int64), .long (999 : Int64)]) (rest := []) X hP hD hS hA (k_L_in l G cI cS cL (clockA A (nI k202) (2 : Int32)) (0 : Int64) (999 : Int64)) cpS_in aw_667 ⟨Nat.le_of_ble_eq_true rfl, Nat.le_of_ble_eq_true rfl⟩ [] (cs := []) rfl (by decide) (cs' := []) rfl rfl rfl hl.1 rfl (Nat.le_of_ble_eq_true rfl) dL_kept_295 ⟨Nat.le_of_ble_eq_true rfl, Nat.le_of_ble_eq_true rfl⟩ rfl (bs' := [obC q qn qt qs qH qx cI cS ad o]) rfl (fun H locs hP hD hS => ?_)
            refine lv_if_eq (tgt := 462) hx hb dL_kept_298 (by decide) (fun c => absurd c (in_nz (f_ph9 hI hlt202))) (fun _ => ?_)
            refine lv_ldc2 hx hb hown (hw _ aw_674) dL_kept_301 ?_
            refine lv_iload hx hb dL_kept_304 (lv_at hl 5 rfl) ?_
            refine lv_i2l hx hb dL_kept_306 rfl ?_
            refine lv_lmul hx hb dL_kept_307 ?_
            refine lv_lload hx hb dL_kept_308 (lv_at hl 7 rfl) ?_
            refine lv_ladd hx hb dL_kept_310 ?_
            refine lv_aload_n hx hb dL_kept_311 rfl (lv_at hl 0 rfl) ?_
            refine lv_iload hx hb dL_kept_312 (lv_at hl 5 rfl) ?_
            refine lv_bipush (v := 7) hx hb dL_kept_314 (by decide) ?_
            have hc := oz_clock l G cI cS cL ad mp q qn qt qs qH qx (o := o) hg (nI k202) (7 : Int32) (clk_ok hlt202) (by decide)
            rw [hab] at hc
            refine co_callH (As := [.ref (q 0), .int (nI k202), .int (7 : Int32)]) (rest := [.long (((100 : Int64) * ((nI k202).toInt64)) + (clockA A (nI k202) (6 : Int32)))]) hE hC X hP hD hS hA hc cpH_clock aw_341 ⟨Nat.le_of_ble_eq_true rfl, Nat.le_of_ble_eq_true rfl⟩ [0] (cs := [obC q qn qt qs qH qx cI cS ad o]) rfl (by decide) (fun u => [obC q qn qt qs qH qx cI cS ad u]) (fun _ => rfl) (fun _ => rfl) rfl hl.1 rfl (Nat.le_of_ble_eq_true rfl) dL_kept_316 ⟨Nat.le_of_ble_eq_true rfl, Nat.le_of_ble_eq_true rfl⟩ (st1 := fun _ => [.long (clockA A (nI k202) (7 : Int32)), .long (((100 : Int64) * ((nI k202).toInt64)) + (clockA A (nI k202) (6 : Int32)))]) (fun _ => rfl) (fun u => [obC q qn qt qs qH qx cI cS ad u]) (fun _ => rfl) (fun o ho H locs hP hD hS => ?_)
            obtain ⟨hab, hg⟩ := ho
            refine lv_ladd hx hb dL_kept_319 ?_
            refine lv_lload hx hb dL_kept_320 (lv_at hl 6 rfl) ?_
            refine lv_lsub hx hb dL_kept_322 ?_
            refine lv_ldc2 hx hb hown (hw _ aw_675) dL_kept_323 ?_
            refine lv_lrem hx hb dL_kept_326 (by decide) ?_
            refine lv_lconst (v := 0) hx hb dL_kept_327 (by decide) ?_
            refine W.lcmp hx hb dL_kept_328 ?_
            refine iv_ifne hx hb 462 dL_kept_329 (by decide) (fun c => absurd (by rw [f_way hbb hI hlt202]; exact lg_self _) c) (fun _ => ?_)
            refine lv_aload_n hx hb dL_kept_332 rfl (lv_at hl 0 rfl) ?_
            refine lv_iload hx hb dL_kept_333 (lv_at hl 5 rfl) ?_
            refine lv_iconst (v := 3) hx hb dL_kept_335 (by decide) ?_
            have hc := oz_clock l G cI cS cL ad mp q qn qt qs qH qx (o := o) hg (nI k202) (3 : Int32) (clk_ok hlt202) (by decide)
            rw [hab] at hc
            refine co_callH (As := [.ref (q 0), .int (nI k202), .int (3 : Int32)]) (rest := []) hE hC X hP hD hS hA hc cpH_clock aw_341 ⟨Nat.le_of_ble_eq_true rfl, Nat.le_of_ble_eq_true rfl⟩ [0] (cs := [obC q qn qt qs qH qx cI cS ad o]) rfl (by decide) (fun u => [obC q qn qt qs qH qx cI cS ad u]) (fun _ => rfl) (fun _ => rfl) rfl hl.1 rfl (Nat.le_of_ble_eq_true rfl) dL_kept_336 ⟨Nat.le_of_ble_eq_true rfl, Nat.le_of_ble_eq_true rfl⟩ (st1 := fun _ => [.long (clockA A (nI k202) (3 : Int32))]) (fun _ => rfl) (fun u => [obC q qn qt qs qH qx cI cS ad u]) (fun _ => rfl) (fun o ho H locs hP hD hS => ?_)
            obtain ⟨hab, hg⟩ := ho
            refine lv_lconst (v := 0) hx hb dL_kept_339 (by decide) ?_
            refine lv_ldc2 hx hb hown (hw _ aw_676) dL_kept_340 ?_
            refine ct_callS (As := [.long (clockA A (nI k202) (3 : Int32)), .long (0 : Int64), .long (99 : Int64)]) (rest := []) X hP hD hS hA (k_L_in l G cI cS cL (clockA A (nI k202) (3 : Int32)) (0 : Int64) (99 : Int64)) cpS_in aw_667 ⟨Nat.le_of_ble_eq_true rfl, Nat.le_of_ble_eq_true rfl⟩ [] (cs := []) rfl (by decide) (cs' := []) rfl rfl rfl hl.1 rfl (Nat.le_of_ble_eq_true rfl) dL_kept_343 ⟨Nat.le_of_ble_eq_true rfl, Nat.le_of_ble_eq_true rfl⟩ rfl (bs' := [obC q qn qt qs qH qx cI cS ad o]) rfl (fun H locs hP hD hS => ?_)
            refine lv_if_eq (tgt := 462) hx hb dL_kept_346 (by decide) (fun c => absurd c (in_nz (f_sp hI hlt202))) (fun _ => ?_)
            refine lv_aload_n hx hb dL_kept_349 rfl (lv_at hl 0 rfl) ?_
            refine lv_iload hx hb dL_kept_350 (lv_at hl 5 rfl) ?_
            refine lv_iconst (v := 5) hx hb dL_kept_352 (by decide) ?_
            have hc := oz_clock l G cI cS cL ad mp q qn qt qs qH qx (o := o) hg (nI k202) (5 : Int32) (clk_ok hlt202) (by decide)
            rw [hab] at hc
            refine co_callH (As := [.ref (q 0), .int (nI k202), .int (5 : Int32)]) (rest := []) hE hC X hP hD hS hA hc cpH_clock aw_341 ⟨Nat.le_of_ble_eq_true rfl, Nat.le_of_ble_eq_true rfl⟩ [0] (cs := [obC q qn qt qs qH qx cI cS ad o]) rfl (by decide) (fun u => [obC q qn qt qs qH qx cI cS ad u]) (fun _ => rfl) (fun _ => rfl) rfl hl.1 rfl (Nat.le_of_ble_eq_true rfl) dL_kept_353 ⟨Nat.le_of_ble_eq_true rfl, Nat.le_of_ble_eq_true rfl⟩ (st1 := fun _ => [.long (clockA A (nI k202) (5 : Int32))]) (fun _ => rfl) (fun u => [obC q qn qt qs qH qx cI cS ad u]) (fun _ => rfl) (fun o ho H locs hP hD hS => ?_)
            obtain ⟨hab, hg⟩ := ho
            refine lv_aload_n hx hb dL_kept_356 rfl (lv_at hl 0 rfl) ?_
            refine lv_iconst (v := 0) hx hb dL_kept_357 (by decide) ?_
            have hc := oz_setting l G cI cS cL ad mp q qn qt qs qH qx (o := o) hg (0 : Int32) (by decide)
            rw [hab] at hc
            refine co_callH (As := [.ref (q 0), .int (0 : Int32)]) (rest := [.long (clockA A (nI k202) (5 : Int32))]) hE hC X hP hD hS hA hc cpH_setting aw_454 ⟨Nat.le_of_ble_eq_true rfl, Nat.le_of_ble_eq_true rfl⟩ [0] (cs := [obC q qn qt qs qH qx cI cS ad o]) rfl (by decide) (fun u => [obC q qn qt qs qH qx cI cS ad u]) (fun _ => rfl) (fun _ => rfl) rfl hl.1 rfl (Nat.le_of_ble_eq_true rfl) dL_kept_358 ⟨Nat.le_of_ble_eq_true rfl, Nat.le_of_ble_eq_true rfl⟩ (st1 := fun _ => [.long (settingA A (0 : Int32)), .long (clockA A (nI k202) (5 : Int32))]) (fun _ => rfl) (fun u => [obC q qn qt qs qH qx cI cS ad u]) (fun _ => rfl) (fun o ho H locs hP hD hS => ?_)
            obtain ⟨hab, hg⟩ := ho
            refine lv_lneg hx hb dL_kept_361 ?_
            refine lv_aload_n hx hb dL_kept_362 rfl (lv_at hl 0 rfl) ?_
            refine lv_iconst (v := 0) hx hb dL_kept_363 (by decide) ?_
            have hc := oz_setting l G cI cS cL ad mp q qn qt qs qH qx (o := o) hg (0 : Int32) (by decide)
            rw [hab] at hc
            refine co_callH (As := [.ref (q 0), .int (0 : Int32)]) (rest := [.long (-(settingA A (0 : Int32))), .long (clockA A (nI k202) (5 : Int32))]) hE hC X hP hD hS hA hc cpH_setting aw_454 ⟨Nat.le_of_ble_eq_true rfl, Nat.le_of_ble_eq_true rfl⟩ [0] (cs := [obC q qn qt qs qH qx cI cS ad o]) rfl (by decide) (fun u => [obC q qn qt qs qH qx cI cS ad u]) (fun _ => rfl) (fun _ => rfl) rfl hl.1 rfl (Nat.le_of_ble_eq_true rfl) dL_kept_364 ⟨Nat.le_of_ble_eq_true rfl, Nat.le_of_ble_eq_true rfl⟩ (st1 := fun _ => [.long (settingA A (0 : Int32)), .long (-(settingA A (0 : Int32))), .long (clockA A (nI k202) (5 : Int32))]) (fun _ => rfl) (fun u => [obC q qn qt qs qH qx cI cS ad u]) (fun _ => rfl) (fun o ho H locs hP hD hS => ?_)
            obtain ⟨hab, hg⟩ := ho
            refine ct_callS (As := [.long (clockA A (nI k202) (5 : Int32)), .long (-(settingA A (0 : Int32))), .long (settingA A (0 : Int32))]) (rest := []) X hP hD hS hA (k_L_in l G cI cS cL (clockA A (nI k202) (5 : Int32)) (-(settingA A (0 : Int32))) (settingA A (0 : Int32))) cpS_in aw_667 ⟨Nat.le_of_ble_eq_true rfl, Nat.le_of_ble_eq_true rfl⟩ [] (cs := []) rfl (by decide) (cs' := []) rfl rfl rfl hl.1 rfl (Nat.le_of_ble_eq_true rfl) dL_kept_367 ⟨Nat.le_of_ble_eq_true rfl, Nat.le_of_ble_eq_true rfl⟩ rfl (bs' := [obC q qn qt qs qH qx cI cS ad o]) rfl (fun H locs hP hD hS => ?_)
            refine lv_if_eq (tgt := 462) hx hb dL_kept_370 (by decide) (fun c => absurd c (in_nz (f_pl hI hlt202))) (fun _ => ?_)
            have m397 : ∀ (o : Ob) (hab : aob o = A) (hg : Gd o) (H : Heap) (locs : List Loc) (ls : Array Slot), va_P G classes [obC q qn qt qs qH qx cI cS ad o].flatten H → va_D A0 [obC q qn qt qs qH qx cI cS ad o].flatten → va_S A0 s.heap H locs → lv_has ls 22 [(0, .ref (q 0)), (1, .int (1 : Int32)), (3, .int (nI ((dsum (AL (znt A.1) (zse A.1)) k202)))), (4, .int (nI ((cnt (fun j => decide (g j = j)) 0 (k202 + 1))))), (5, .long (stS (zst A.1) (k202 + 1))), (7, .int (nI k202)), (8, .long (clockA A (nI k202) (2 : Int32))), (10, .long (clockA A (nI k202) (6 : Int32))), (12, .long (clockA A (nI k202) (10 : Int32))), (14, .long (clockA A (nI k202) (8 : Int32)))] → W p l e ({ frames := 7, cells := 0, slots := 0, locals := 159 } : Room) s m args below meth c H locs 0 0 QQ (F0 m 397 ls []) := by
              intro o hab hg H locs ls hP hD hS hl
              refine lv_lload hx hb dL_kept_397 (lv_at hl 8 rfl) ?_
              refine lv_iload hx hb dL_kept_399 (lv_at hl 5 rfl) ?_
              refine lv_lshr hx hb dL_kept_401 rfl ?_
              refine lv_lconst (v := 1) hx hb dL_kept_402 (by decide) ?_
              refine lv_land hx hb dL_kept_403 ?_
              refine lv_lconst (v := 1) hx hb dL_kept_404 (by decide) ?_
              refine W.lcmp hx hb dL_kept_405 ?_
              refine iv_ifne hx hb 462 dL_kept_406 (by decide) (fun c => absurd (f_self hlt202) c) (fun _ => ?_)
              refine lv_lload hx hb dL_kept_409 (lv_at hl 9 rfl) ?_
              refine lv_lload hx hb dL_kept_411 (lv_at hl 8 rfl) ?_
              refine lv_ldc2 hx hb hown (hw _ aw_671) dL_kept_413 ?_
              refine lv_lxor hx hb dL_kept_416 ?_
              refine lv_land hx hb dL_kept_417 ?_
              refine lv_lconst (v := 0) hx hb dL_kept_418 (by decide) ?_
              refine W.lcmp hx hb dL_kept_419 ?_
              refine iv_ifne hx hb 462 dL_kept_420 (by decide) (fun c => absurd (f_lsub hlt202) c) (fun _ => ?_)
              refine lv_lload hx hb dL_kept_423 (lv_at hl 9 rfl) ?_
              refine lv_iload hx hb dL_kept_425 (lv_at hl 5 rfl) ?_
              refine lv_lshr hx hb dL_kept_427 rfl ?_
              refine lv_lconst (v := 1) hx hb dL_kept_428 (by decide) ?_
              refine lv_land hx hb dL_kept_429 ?_
              refine lv_lconst (v := 0) hx hb dL_kept_430 (by decide) ?_
              refine W.lcmp hx hb dL_kept_431 ?_
              refine iv_ifne hx hb 462 dL_kept_432 (by decide) (fun c => absurd (f_lno hlt202) c) (fun _ => ?_)
              refine lv_aload_n hx hb dL_kept_435 rfl (lv_at hl 0 rfl) ?_
              refine lv_aload_n hx hb dL_kept_436 rfl (lv_at hl 0 rfl) ?_
              refine lv_iload hx hb dL_kept_437 (lv_at hl 5 rfl) ?_
              refine lv_iconst (v := 0) hx hb dL_kept_439 (by decide) ?_
              have hc := oz_clock l G cI cS cL ad mp q qn qt qs qH qx (o := o) hg (nI k202) (0 : Int32) (clk_ok hlt202) (by decide)
              rw [hab] at hc
              refine co_callH (As := [.ref (q 0), .int (nI k202), .int (0 : Int32)]) (rest := [.ref (q 0)]) hE hC X hP hD hS hA hc cpH_clock aw_341 ⟨Nat.le_of_ble_eq_true rfl, Nat.le_of_ble_eq_true rfl⟩ [0] (cs := [obC q qn qt qs qH qx cI cS ad o]) rfl (by decide) (fun u => [obC q qn qt qs qH qx cI cS ad u]) (fun _ => rfl) (fun _ => rfl) rfl hl.1 rfl (Nat.le_of_ble_eq_true rfl) dL_kept_440 ⟨Nat.le_of_ble_eq_true rfl, Nat.le_of_ble_eq_true rfl⟩ (st1 := fun _ => [.long (clockA A (nI k202) (0 : Int32)), .ref (q 0)]) (fun _ => rfl) (fun u => [obC q qn qt qs qH qx cI cS ad u]) (fun _ => rfl) (fun o ho H locs hP hD hS => ?_)
              obtain ⟨hab, hg⟩ := ho
              refine lv_l2i hx hb dL_kept_443 rfl ?_
              refine W.eq (g2 := F0 m 444 ls [.int (zbm A.1 k202), .ref (q 0)]) (by rw [f_bmk hlt202] <;> rfl) ?_
              refine lv_iconst (v := 1) hx hb dL_kept_444 (by decide) ?_
              have hc := oz_beam l G cI cS cL ad mp q qn qt qs qH qx (o := o) hg (zbm A.1 k202) (1 : Int32) (bm_in (hI.1.1 k202 hlt202)) (by decide)
              rw [hab] at hc
              refine co_callH (As := [.ref (q 0), .int (zbm A.1 k202), .int (1 : Int32)]) (rest := []) hE hC X hP hD hS hA hc cpH_beam aw_428 ⟨Nat.le_of_ble_eq_true rfl, Nat.le_of_ble_eq_true rfl⟩ [0] (cs := [obC q qn qt qs qH qx cI cS ad o]) rfl (by decide) (fun u => [obC q qn qt qs qH qx cI cS ad u]) (fun _ => rfl) (fun _ => rfl) rfl hl.1 rfl (Nat.le_of_ble_eq_true rfl) dL_kept_445 ⟨Nat.le_of_ble_eq_true rfl, Nat.le_of_ble_eq_true rfl⟩ (st1 := fun _ => [.long (beamA A (zbm A.1 k202) (1 : Int32))]) (fun _ => rfl) (fun u => [obC q qn qt qs qH qx cI cS ad u]) (fun _ => rfl) (fun o ho H locs hP hD hS => ?_)
              obtain ⟨hab, hg⟩ := ho
              refine lv_iload hx hb dL_kept_448 (lv_at hl 5 rfl) ?_
              refine lv_lshr hx hb dL_kept_450 rfl ?_
              refine lv_lconst (v := 1) hx hb dL_kept_451 (by decide) ?_
              refine lv_land hx hb dL_kept_452 ?_
              refine lv_lconst (v := 1) hx hb dL_kept_453 (by decide) ?_
              refine W.lcmp hx hb dL_kept_454 ?_
              refine iv_ifne hx hb 462 dL_kept_455 (by decide) (fun c => absurd (f_hangs hI hlt202) c) (fun _ => ?_)
              refine lv_iconst (v := 1) hx hb dL_kept_458 (by decide) ?_
              refine lv_goto (tgt := 463) hx hb dL_kept_459 (by decide) ?_
              refine lv_istore_n (lv' := [(1, .int (1 : Int32)), (0, .ref (q 0)), (3, .int (nI ((dsum (AL (znt A.1) (zse A.1)) k202)))), (4, .int (nI ((cnt (fun j => decide (g j = j)) 0 (k202 + 1))))), (5, .long (stS (zst A.1) (k202 + 1))), (7, .int (nI k202)), (8, .long (clockA A (nI k202) (2 : Int32))), (10, .long (clockA A (nI k202) (6 : Int32))), (12, .long (clockA A (nI k202) (10 : Int32))), (14, .long (clockA A (nI k202) (8 : Int32)))]) hx hb dL_kept_463 rfl hl (by decide) rfl (fun ls hl => ?_)
              refine lv_iconst (v := 0) hx hb dL_kept_464 (by decide) ?_
              refine lv_istore (lv' := [(16, .int (0 : Int32)), (1, .int (1 : Int32)), (0, .ref (q 0)), (3, .int (nI ((dsum (AL (znt A.1) (zse A.1)) k202)))), (4, .int (nI ((cnt (fun j => decide (g j = j)) 0 (k202 + 1))))), (5, .long (stS (zst A.1) (k202 + 1))), (7, .int (nI k202)), (8, .long (clockA A (nI k202) (2 : Int32))), (10, .long (clockA A (nI k202) (6 : Int32))), (12, .long (clockA A (nI k202) (10 : Int32))), (14, .long (clockA A (nI k202) (8 : Int32)))]) hx hb dL_kept_465 hl (by decide) rfl (fun ls hl => ?_)
              have lp467 : ∀ (n k467 : Nat), k467 + n = 8 → ∀ (o : Ob) (hab : aob o = A) (hg : Gd o) (H : Heap) (locs : List Loc) (ls : Array Slot), va_P G classes [obC q qn qt qs qH qx cI cS ad o].flatten H → va_D A0 [obC q qn qt qs qH qx cI cS ad o].flatten → va_S A0 s.heap H locs → lv_has ls 22 [(16, .int (nI k467)), (3, .int (nI (((dsum (AL (znt A.1) (zse A.1)) k202) + cnt ((AL (znt A.1) (zse A.1)) k202) 0 k467)))), (0, .ref (q 0)), (1, .int (1 : Int32)), (4, .int (nI ((cnt (fun j => decide (g j = j)) 0 (k202 + 1))))), (5, .long (stS (zst A.1) (k202 + 1))), (7, .int (nI k202)), (8, .long (clockA A (nI k202) (2 : Int32))), (10, .long (clockA A (nI k202) (6 : Int32))), (12, .long (clockA A (nI k202) (10 : Int32))), (14, .long (clockA A (nI k202) (8 : Int32)))] → W p l e ({ frames := 7, cells := 0, slots := 0, locals := 159 } : Room) s m args below meth c H locs 0 0 QQ (F0 m 467 ls []) := by
                intro n
                induction n with
                | zero =>
                  intro k467 hk
                  have hkN : k467 = 8 := by omega
                  rw [hkN]
                  intro o hab hg H locs ls hP hD hS hl
                  refine lv_iload hx hb dL_kept_467 (lv_at hl 0 rfl) ?_
                  refine lv_bipush (v := 8) hx hb dL_kept_469 (by decide) ?_
                  refine nv_ge hx hb 8 8 727 (by omega) (by omega) dL_kept_471 (by decide) (fun _ => ?_) (fun c => absurd (Nat.le_refl _) c)
                  refine nv_iinc (k := 6) (lv' := [(7, .int (nI ((k202 + 1)))), (16, .int (nI 8)), (3, .int (nI (((dsum (AL (znt A.1) (zse A.1)) k202) + cnt ((AL (znt A.1) (zse A.1)) k202) 0 8)))), (0, .ref (q 0)), (1, .int (1 : Int32)), (4, .int (nI ((cnt (fun j => decide (g j = j)) 0 (k202 + 1))))), (5, .long (stS (zst A.1) (k202 + 1))), (8, .long (clockA A (nI k202) (2 : Int32))), (10, .long (clockA A (nI k202) (6 : Int32))), (12, .long (clockA A (nI k202) (10 : Int32))), (14, .long (clockA A (nI k202) (8 : Int32)))]) hx hb k202 dL_kept_727 hl rfl (by decide) rfl (fun ls hl => ?_)
                  refine lv_goto (tgt := 202) hx hb dL_kept_730 (by decide) ?_
                  exact ih202 (k202 + 1) (by omega) o hab hg _ _ _ hP hD hS (lv_sub hl [0, 2, 5, 6, 3, 4] rfl)
                | succ n ih467 =>
                  intro k467 hk o hab hg H locs ls hP hD hS hl
                  have hlt467 : k467 < 8 := by omega
                  refine lv_iload hx hb dL_kept_467 (lv_at hl 0 rfl) ?_
                  refine lv_bipush (v := 8) hx hb dL_kept_469 (by decide) ?_
                  refine nv_ge hx hb k467 8 727 (by omega) (by omega) dL_kept_471 (by decide) (fun c => absurd c (by omega)) (fun _ => ?_)
                  refine lv_iload_n hx hb dL_kept_474 rfl (lv_at hl 3 rfl) ?_
                  refine lv_if_eq (tgt := 727) hx hb dL_kept_475 (by decide) (fun c => absurd c (by decide)) (fun _ => ?_)
                  refine lv_iload hx hb dL_kept_478 (lv_at hl 6 rfl) ?_
                  refine lv_iload hx hb dL_kept_480 (lv_at hl 0 rfl) ?_
                  refine nv_eq hx hb k202 k467 721 (by omega) (by omega) dL_kept_482 (by decide) (fun hne => ?_) (fun hne => ?_)
                  · have hl : lv_has ls 22 [(16, .int (nI k467)), (3, .int (nI (((dsum (AL (znt A.1) (zse A.1)) k202) + cnt ((AL (znt A.1) (zse A.1)) k202) 0 (k467 + 1))))), (0, .ref (q 0)), (1, .int (1 : Int32)), (4, .int (nI ((cnt (fun j => decide (g j = j)) 0 (k202 + 1))))), (5, .long (stS (zst A.1) (k202 + 1))), (7, .int (nI k202)), (8, .long (clockA A (nI k202) (2 : Int32))), (10, .long (clockA A (nI k202) (6 : Int32))), (12, .long (clockA A (nI k202) (10 : Int32))), (14, .long (clockA A (nI k202) (8 : Int32)))] := by rw [← c_off (B := (AL (znt A.1) (zse A.1)) k202) (k := k467) (by rw [← hne]; exact AL_no _)]; exact hl
                    refine nv_iinc (k := 0) (lv' := [(16, .int (nI ((k467 + 1)))), (3, .int (nI (((dsum (AL (znt A.1) (zse A.1)) k202) + cnt ((AL (znt A.1) (zse A.1)) k202) 0 (k467 + 1))))), (0, .ref (q 0)), (1, .int (1 : Int32)), (4, .int (nI ((cnt (fun j => decide (g j = j)) 0 (k202 + 1))))), (5, .long (stS (zst A.1) (k202 + 1))), (7, .int (nI k202)), (8, .long (clockA A (nI k202) (2 : Int32))), (10, .long (clockA A (nI k202) (6 : Int32))), (12, .long (clockA A (nI k202) (10 : Int32))), (14, .long (clockA A (nI k202) (8 : Int32)))]) hx hb k467 dL_kept_721 hl rfl (by decide) rfl (fun ls hl => ?_)
                    refine lv_goto (tgt := 467) hx hb dL_kept_724 (by decide) ?_
                    exact ih467 (k467 + 1) (by omega) o hab hg _ _ _ hP hD hS (lv_sub hl [0, 1, 2, 3, 4, 5, 6, 7, 8, 9, 10] rfl)
                  · refine lv_aload_n hx hb dL_kept_485 rfl (lv_at hl 2 rfl) ?_
                    refine lv_iload hx hb dL_kept_486 (lv_at hl 6 rfl) ?_
                    refine lv_iload hx hb dL_kept_488 (lv_at hl 0 rfl) ?_
                    refine lv_iconst (v := 0) hx hb dL_kept_490 (by decide) ?_
                    have hc := oz_pair l G cI cS cL ad mp q qn qt qs qH qx (o := o) hg (nI k202) (nI k467) (0 : Int32) (par_ok hlt202 hlt467 hne) (by decide)
                    rw [hab] at hc
                    refine co_callH (As := [.ref (q 0), .int (nI k202), .int (nI k467), .int (0 : Int32)]) (rest := []) hE hC X hP hD hS hA hc cpH_pair aw_396 ⟨Nat.le_of_ble_eq_true rfl, Nat.le_of_ble_eq_true rfl⟩ [0] (cs := [obC q qn qt qs qH qx cI cS ad o]) rfl (by decide) (fun u => [obC q qn qt qs qH qx cI cS ad u]) (fun _ => rfl) (fun _ => rfl) rfl hl.1 rfl (Nat.le_of_ble_eq_true rfl) dL_kept_491 ⟨Nat.le_of_ble_eq_true rfl, Nat.le_of_ble_eq_true rfl⟩ (st1 := fun _ => [.long (pairA A (nI k202) (nI k467) (0 : Int32))]) (fun _ => rfl) (fun u => [obC q qn qt qs qH qx cI cS ad u]) (fun _ => rfl) (fun o ho H locs hP hD hS => ?_)
                    obtain ⟨hab, hg⟩ := ho
                    refine lv_lstore (lv' := [(17, .long (pairA A (nI k202) (nI k467) (0 : Int32))), (16, .int (nI k467)), (3, .int (nI (((dsum (AL (znt A.1) (zse A.1)) k202) + cnt ((AL (znt A.1) (zse A.1)) k202) 0 k467)))), (0, .ref (q 0)), (1, .int (1 : Int32)), (4, .int (nI ((cnt (fun j => decide (g j = j)) 0 (k202 + 1))))), (5, .long (stS (zst A.1) (k202 + 1))), (7, .int (nI k202)), (8, .long (clockA A (nI k202) (2 : Int32))), (10, .long (clockA A (nI k202) (6 : Int32))), (12, .long (clockA A (nI k202) (10 : Int32))), (14, .long (clockA A (nI k202) (8 : Int32)))]) hx hb dL_kept_494 hl (by decide) rfl (fun ls hl => ?_)
                    refine lv_aload_n hx hb dL_kept_496 rfl (lv_at hl 3 rfl) ?_
                    refine lv_iload hx hb dL_kept_497 (lv_at hl 1 rfl) ?_
                    refine lv_iload hx hb dL_kept_499 (lv_at hl 7 rfl) ?_
                    refine lv_iconst (v := 0) hx hb dL_kept_501 (by decide) ?_
                    have hc := oz_pair l G cI cS cL ad mp q qn qt qs qH qx (o := o) hg (nI k467) (nI k202) (0 : Int32) (par_ok hlt467 hlt202 (fun q => hne q.symm)) (by decide)
                    rw [hab] at hc
                    refine co_callH (As := [.ref (q 0), .int (nI k467), .int (nI k202), .int (0 : Int32)]) (rest := []) hE hC X hP hD hS hA hc cpH_pair aw_396 ⟨Nat.le_of_ble_eq_true rfl, Nat.le_of_ble_eq_true rfl⟩ [0] (cs := [obC q qn qt qs qH qx cI cS ad o]) rfl (by decide) (fun u => [obC q qn qt qs qH qx cI cS ad u]) (fun _ => rfl) (fun _ => rfl) rfl hl.1 rfl (Nat.le_of_ble_eq_true rfl) dL_kept_502 ⟨Nat.le_of_ble_eq_true rfl, Nat.le_of_ble_eq_true rfl⟩ (st1 := fun _ => [.long (pairA A (nI k467) (nI k202) (0 : Int32))]) (fun _ => rfl) (fun u => [obC q qn qt qs qH qx cI cS ad u]) (fun _ => rfl) (fun o ho H locs hP hD hS => ?_)
                    obtain ⟨hab, hg⟩ := ho
                    refine lv_lstore (lv' := [(19, .long (pairA A (nI k467) (nI k202) (0 : Int32))), (17, .long (pairA A (nI k202) (nI k467) (0 : Int32))), (16, .int (nI k467)), (3, .int (nI (((dsum (AL (znt A.1) (zse A.1)) k202) + cnt ((AL (znt A.1) (zse A.1)) k202) 0 k467)))), (0, .ref (q 0)), (1, .int (1 : Int32)), (4, .int (nI ((cnt (fun j => decide (g j = j)) 0 (k202 + 1))))), (5, .long (stS (zst A.1) (k202 + 1))), (7, .int (nI k202)), (8, .long (clockA A (nI k202) (2 : Int32))), (10, .long (clockA A (nI k202) (6 : Int32))), (12, .long (clockA A (nI k202) (10 : Int32))), (14, .long (clockA A (nI k202) (8 : Int32)))]) hx hb dL_kept_505 hl (by decide) rfl (fun ls hl => ?_)
                    refine lv_lload hx hb dL_kept_507 (lv_at hl 12 rfl) ?_
                    refine lv_iload hx hb dL_kept_509 (lv_at hl 2 rfl) ?_
                    refine lv_lshr hx hb dL_kept_511 rfl ?_
                    refine lv_lconst (v := 1) hx hb dL_kept_512 (by decide) ?_
                    refine lv_land hx hb dL_kept_513 ?_
                    refine lv_lconst (v := 1) hx hb dL_kept_514 (by decide) ?_
                    refine W.lcmp hx hb dL_kept_515 ?_
                    refine iv_ifne hx hb 523 dL_kept_516 (by decide) (fun clk => ?_) (fun clk => ?_)
                    · refine lv_iconst (v := 0) hx hb dL_kept_523 (by decide) ?_
                      refine lv_istore (lv' := [(21, .int (0 : Int32)), (19, .long (pairA A (nI k467) (nI k202) (0 : Int32))), (17, .long (pairA A (nI k202) (nI k467) (0 : Int32))), (16, .int (nI k467)), (3, .int (nI (((dsum (AL (znt A.1) (zse A.1)) k202) + cnt ((AL (znt A.1) (zse A.1)) k202) 0 k467)))), (0, .ref (q 0)), (1, .int (1 : Int32)), (4, .int (nI ((cnt (fun j => decide (g j = j)) 0 (k202 + 1))))), (5, .long (stS (zst A.1) (k202 + 1))), (7, .int (nI k202)), (8, .long (clockA A (nI k202) (2 : Int32))), (10, .long (clockA A (nI k202) (6 : Int32))), (12, .long (clockA A (nI k202) (10 : Int32))), (14, .long (clockA A (nI k202) (8 : Int32)))]) hx hb dL_kept_524 hl (by decide) rfl (fun ls hl => ?_)
                      refine lv_iload_n hx hb dL_kept_526 rfl (lv_at hl 4 rfl) ?_
                      refine lv_iload hx hb dL_kept_527 (lv_at hl 0 rfl) ?_
                      refine lv_if_eq (tgt := 536) hx hb dL_kept_529 (by decide) (fun _ => ?_) (fun c => absurd (by decide) c)
                      refine lv_iconst (v := 0) hx hb dL_kept_536 (by decide) ?_
                      refine nv_iadd hx hb ((dsum (AL (znt A.1) (zse A.1)) k202) + cnt ((AL (znt A.1) (zse A.1)) k202) 0 k467) 0 dL_kept_537 ?_
                      refine W.eq (g2 := F0 m 538 ls [.int (nI (((dsum (AL (znt A.1) (zse A.1)) k202) + cnt ((AL (znt A.1) (zse A.1)) k202) 0 (k467 + 1))))]) (by rw [c_of0 (B := (AL (znt A.1) (zse A.1)) k202) (Bool.eq_false_iff.mpr (fun q => clk ((p_lk hlt202 hlt467 hne).mpr q)))] <;> rfl) ?_
                      refine lv_istore_n (lv' := [(3, .int (nI (((dsum (AL (znt A.1) (zse A.1)) k202) + cnt ((AL (znt A.1) (zse A.1)) k202) 0 (k467 + 1))))), (21, .int (0 : Int32)), (19, .long (pairA A (nI k467) (nI k202) (0 : Int32))), (17, .long (pairA A (nI k202) (nI k467) (0 : Int32))), (16, .int (nI k467)), (0, .ref (q 0)), (1, .int (1 : Int32)), (4, .int (nI ((cnt (fun j => decide (g j = j)) 0 (k202 + 1))))), (5, .long (stS (zst A.1) (k202 + 1))), (7, .int (nI k202)), (8, .long (clockA A (nI k202) (2 : Int32))), (10, .long (clockA A (nI k202) (6 : Int32))), (12, .long (clockA A (nI k202) (10 : Int32))), (14, .long (clockA A (nI k202) (8 : Int32)))]) hx hb dL_kept_538 rfl hl (by decide) rfl (fun ls hl => ?_)
                      refine lv_lload hx hb dL_kept_539 (lv_at hl 3 rfl) ?_
                      refine lv_ldc2 hx hb hown (hw _ aw_677) dL_kept_541 ?_
                      refine lv_ldc2 hx hb hown (hw _ aw_678) dL_kept_544 ?_
                      refine ct_callS (As := [.long (pairA A (nI k202) (nI k467) (0 : Int32)), .long (-500 : Int64), .long (499 : Int64)]) (rest := []) X hP hD hS hA (k_L_in l G cI cS cL (pairA A (nI k202) (nI k467) (0 : Int32)) (-500 : Int64) (499 : Int64)) cpS_in aw_667 ⟨Nat.le_of_ble_eq_true rfl, Nat.le_of_ble_eq_true rfl⟩ [] (cs := []) rfl (by decide) (cs' := []) rfl rfl rfl hl.1 rfl (Nat.le_of_ble_eq_true rfl) dL_kept_547 ⟨Nat.le_of_ble_eq_true rfl, Nat.le_of_ble_eq_true rfl⟩ rfl (bs' := [obC q qn qt qs qH qx cI cS ad o]) rfl (fun H locs hP hD hS => ?_)
                      refine lv_if_eq (tgt := 719) hx hb dL_kept_550 (by decide) (fun c => absurd c (in_nz (p_gap hlt202 hlt467 hne hI))) (fun _ => ?_)
                      have m580 : ∀ (o : Ob) (hab : aob o = A) (hg : Gd o) (H : Heap) (locs : List Loc) (ls : Array Slot), va_P G classes [obC q qn qt qs qH qx cI cS ad o].flatten H → va_D A0 [obC q qn qt qs qH qx cI cS ad o].flatten → va_S A0 s.heap H locs → lv_has ls 22 [(0, .ref (q 0)), (1, .int (1 : Int32)), (3, .int (nI (((dsum (AL (znt A.1) (zse A.1)) k202) + cnt ((AL (znt A.1) (zse A.1)) k202) 0 (k467 + 1))))), (4, .int (nI ((cnt (fun j => decide (g j = j)) 0 (k202 + 1))))), (5, .long (stS (zst A.1) (k202 + 1))), (7, .int (nI k202)), (8, .long (clockA A (nI k202) (2 : Int32))), (10, .long (clockA A (nI k202) (6 : Int32))), (12, .long (clockA A (nI k202) (10 : Int32))), (14, .long (clockA A (nI k202) (8 : Int32))), (16, .int (nI k467)), (17, .long (pairA A (nI k202) (nI k467) (0 : Int32))), (19, .long (pairA A (nI k467) (nI k202) (0 : Int32))), (21, .int (0 : Int32))] → W p l e ({ frames := 7, cells := 0, slots := 0, locals := 159 } : Room) s m args below meth c H locs 0 0 QQ (F0 m 580 ls []) := by
                        intro o hab hg H locs ls hP hD hS hl
                        refine lv_aload_n hx hb dL_kept_580 rfl (lv_at hl 0 rfl) ?_
                        refine lv_iload hx hb dL_kept_581 (lv_at hl 10 rfl) ?_
                        refine lv_iconst (v := 2) hx hb dL_kept_583 (by decide) ?_
                        have hc := oz_clock l G cI cS cL ad mp q qn qt qs qH qx (o := o) hg (nI k467) (2 : Int32) (clk_ok hlt467) (by decide)
                        rw [hab] at hc
                        refine co_callH (As := [.ref (q 0), .int (nI k467), .int (2 : Int32)]) (rest := []) hE hC X hP hD hS hA hc cpH_clock aw_341 ⟨Nat.le_of_ble_eq_true rfl, Nat.le_of_ble_eq_true rfl⟩ [0] (cs := [obC q qn qt qs qH qx cI cS ad o]) rfl (by decide) (fun u => [obC q qn qt qs qH qx cI cS ad u]) (fun _ => rfl) (fun _ => rfl) rfl hl.1 rfl (Nat.le_of_ble_eq_true rfl) dL_kept_584 ⟨Nat.le_of_ble_eq_true rfl, Nat.le_of_ble_eq_true rfl⟩ (st1 := fun _ => [.long (clockA A (nI k467) (2 : Int32))]) (fun _ => rfl) (fun u => [obC q qn qt qs qH qx cI cS ad u]) (fun _ => rfl) (fun o ho H locs hP hD hS => ?_)
                        obtain ⟨hab, hg⟩ := ho
                        refine lv_lload hx hb dL_kept_587 (lv_at hl 6 rfl) ?_
                        refine lv_lsub hx hb dL_kept_589 ?_
                        refine lv_lload hx hb dL_kept_590 (lv_at hl 11 rfl) ?_
                        refine lv_lsub hx hb dL_kept_592 ?_
                        refine lv_ldc2 hx hb hown (hw _ aw_675) dL_kept_593 ?_
                        refine lv_lrem hx hb dL_kept_596 (by decide) ?_
                        refine lv_lconst (v := 0) hx hb dL_kept_597 (by decide) ?_
                        refine W.lcmp hx hb dL_kept_598 ?_
                        refine iv_ifne hx hb 719 dL_kept_599 (by decide) (fun c => absurd (by rw [p_cong hlt202 hlt467 hne hI]; exact lg_self _) c) (fun _ => ?_)
                        refine lv_aload_n hx hb dL_kept_602 rfl (lv_at hl 0 rfl) ?_
                        refine lv_iload hx hb dL_kept_603 (lv_at hl 5 rfl) ?_
                        refine lv_iload hx hb dL_kept_605 (lv_at hl 10 rfl) ?_
                        refine lv_iconst (v := 1) hx hb dL_kept_607 (by decide) ?_
                        have hc := oz_pair l G cI cS cL ad mp q qn qt qs qH qx (o := o) hg (nI k202) (nI k467) (1 : Int32) (par_ok hlt202 hlt467 hne) (by decide)
                        rw [hab] at hc
                        refine co_callH (As := [.ref (q 0), .int (nI k202), .int (nI k467), .int (1 : Int32)]) (rest := []) hE hC X hP hD hS hA hc cpH_pair aw_396 ⟨Nat.le_of_ble_eq_true rfl, Nat.le_of_ble_eq_true rfl⟩ [0] (cs := [obC q qn qt qs qH qx cI cS ad o]) rfl (by decide) (fun u => [obC q qn qt qs qH qx cI cS ad u]) (fun _ => rfl) (fun _ => rfl) rfl hl.1 rfl (Nat.le_of_ble_eq_true rfl) dL_kept_608 ⟨Nat.le_of_ble_eq_true rfl, Nat.le_of_ble_eq_true rfl⟩ (st1 := fun _ => [.long (pairA A (nI k202) (nI k467) (1 : Int32))]) (fun _ => rfl) (fun u => [obC q qn qt qs qH qx cI cS ad u]) (fun _ => rfl) (fun o ho H locs hP hD hS => ?_)
                        obtain ⟨hab, hg⟩ := ho
                        refine lv_aload_n hx hb dL_kept_611 rfl (lv_at hl 0 rfl) ?_
                        refine lv_iload hx hb dL_kept_612 (lv_at hl 10 rfl) ?_
                        refine lv_iload hx hb dL_kept_614 (lv_at hl 5 rfl) ?_
                        refine lv_iconst (v := 1) hx hb dL_kept_616 (by decide) ?_
                        have hc := oz_pair l G cI cS cL ad mp q qn qt qs qH qx (o := o) hg (nI k467) (nI k202) (1 : Int32) (par_ok hlt467 hlt202 (fun q => hne q.symm)) (by decide)
                        rw [hab] at hc
                        refine co_callH (As := [.ref (q 0), .int (nI k467), .int (nI k202), .int (1 : Int32)]) (rest := [.long (pairA A (nI k202) (nI k467) (1 : Int32))]) hE hC X hP hD hS hA hc cpH_pair aw_396 ⟨Nat.le_of_ble_eq_true rfl, Nat.le_of_ble_eq_true rfl⟩ [0] (cs := [obC q qn qt qs qH qx cI cS ad o]) rfl (by decide) (fun u => [obC q qn qt qs qH qx cI cS ad u]) (fun _ => rfl) (fun _ => rfl) rfl hl.1 rfl (Nat.le_of_ble_eq_true rfl) dL_kept_617 ⟨Nat.le_of_ble_eq_true rfl, Nat.le_of_ble_eq_true rfl⟩ (st1 := fun _ => [.long (pairA A (nI k467) (nI k202) (1 : Int32)), .long (pairA A (nI k202) (nI k467) (1 : Int32))]) (fun _ => rfl) (fun u => [obC q qn qt qs qH qx cI cS ad u]) (fun _ => rfl) (fun o ho H locs hP hD hS => ?_)
                        obtain ⟨hab, hg⟩ := ho
                        refine W.lcmp hx hb dL_kept_620 ?_
                        refine iv_ifne hx hb 719 dL_kept_621 (by decide) (fun c => absurd (p_near hlt202 hlt467 hne hI) c) (fun _ => ?_)
                        refine lv_aload_n hx hb dL_kept_624 rfl (lv_at hl 0 rfl) ?_
                        refine lv_iload hx hb dL_kept_625 (lv_at hl 5 rfl) ?_
                        refine lv_iload hx hb dL_kept_627 (lv_at hl 10 rfl) ?_
                        refine lv_iconst (v := 2) hx hb dL_kept_629 (by decide) ?_
                        have hc := oz_pair l G cI cS cL ad mp q qn qt qs qH qx (o := o) hg (nI k202) (nI k467) (2 : Int32) (par_ok hlt202 hlt467 hne) (by decide)
                        rw [hab] at hc
                        refine co_callH (As := [.ref (q 0), .int (nI k202), .int (nI k467), .int (2 : Int32)]) (rest := []) hE hC X hP hD hS hA hc cpH_pair aw_396 ⟨Nat.le_of_ble_eq_true rfl, Nat.le_of_ble_eq_true rfl⟩ [0] (cs := [obC q qn qt qs qH qx cI cS ad o]) rfl (by decide) (fun u => [obC q qn qt qs qH qx cI cS ad u]) (fun _ => rfl) (fun _ => rfl) rfl hl.1 rfl (Nat.le_of_ble_eq_true rfl) dL_kept_630 ⟨Nat.le_of_ble_eq_true rfl, Nat.le_of_ble_eq_true rfl⟩ (st1 := fun _ => [.long (pairA A (nI k202) (nI k467) (2 : Int32))]) (fun _ => rfl) (fun u => [obC q qn qt qs qH qx cI cS ad u]) (fun _ => rfl) (fun o ho H locs hP hD hS => ?_)
                        obtain ⟨hab, hg⟩ := ho
                        refine lv_lconst (v := 0) hx hb dL_kept_633 (by decide) ?_
                        refine W.lcmp hx hb dL_kept_634 ?_
                        refine iv_ifne hx hb 642 dL_kept_635 (by decide) (fun _ => ?_) (fun c => absurd c (fun q => clk ((p_lk hlt202 hlt467 hne).mpr ((p_why hlt202 hlt467 hne).mp q))))
                        refine lv_iconst (v := 0) hx hb dL_kept_642 (by decide) ?_
                        refine lv_iload hx hb dL_kept_643 (lv_at hl 13 rfl) ?_
                        refine iv_ne hx hb 719 dL_kept_645 (by decide) (fun c => absurd (by decide) c) (fun _ => ?_)
                        refine lv_iload hx hb dL_kept_648 (lv_at hl 13 rfl) ?_
                        refine lv_aload_n hx hb dL_kept_650 rfl (lv_at hl 0 rfl) ?_
                        refine lv_iload hx hb dL_kept_651 (lv_at hl 5 rfl) ?_
                        refine lv_iload hx hb dL_kept_653 (lv_at hl 10 rfl) ?_
                        refine lv_iconst (v := 1) hx hb dL_kept_655 (by decide) ?_
                        have hc := oz_pair l G cI cS cL ad mp q qn qt qs qH qx (o := o) hg (nI k202) (nI k467) (1 : Int32) (par_ok hlt202 hlt467 hne) (by decide)
                        rw [hab] at hc
                        refine co_callH (As := [.ref (q 0), .int (nI k202), .int (nI k467), .int (1 : Int32)]) (rest := [.int (0 : Int32)]) hE hC X hP hD hS hA hc cpH_pair aw_396 ⟨Nat.le_of_ble_eq_true rfl, Nat.le_of_ble_eq_true rfl⟩ [0] (cs := [obC q qn qt qs qH qx cI cS ad o]) rfl (by decide) (fun u => [obC q qn qt qs qH qx cI cS ad u]) (fun _ => rfl) (fun _ => rfl) rfl hl.1 rfl (Nat.le_of_ble_eq_true rfl) dL_kept_656 ⟨Nat.le_of_ble_eq_true rfl, Nat.le_of_ble_eq_true rfl⟩ (st1 := fun _ => [.long (pairA A (nI k202) (nI k467) (1 : Int32)), .int (0 : Int32)]) (fun _ => rfl) (fun u => [obC q qn qt qs qH qx cI cS ad u]) (fun _ => rfl) (fun o ho H locs hP hD hS => ?_)
                        obtain ⟨hab, hg⟩ := ho
                        refine lv_aload_n hx hb dL_kept_659 rfl (lv_at hl 0 rfl) ?_
                        refine lv_iconst (v := 2) hx hb dL_kept_660 (by decide) ?_
                        have hc := oz_setting l G cI cS cL ad mp q qn qt qs qH qx (o := o) hg (2 : Int32) (by decide)
                        rw [hab] at hc
                        refine co_callH (As := [.ref (q 0), .int (2 : Int32)]) (rest := [.long (pairA A (nI k202) (nI k467) (1 : Int32)), .int (0 : Int32)]) hE hC X hP hD hS hA hc cpH_setting aw_454 ⟨Nat.le_of_ble_eq_true rfl, Nat.le_of_ble_eq_true rfl⟩ [0] (cs := [obC q qn qt qs qH qx cI cS ad o]) rfl (by decide) (fun u => [obC q qn qt qs qH qx cI cS ad u]) (fun _ => rfl) (fun _ => rfl) rfl hl.1 rfl (Nat.le_of_ble_eq_true rfl) dL_kept_661 ⟨Nat.le_of_ble_eq_true rfl, Nat.le_of_ble_eq_true rfl⟩ (st1 := fun _ => [.long (settingA A (2 : Int32)), .long (pairA A (nI k202) (nI k467) (1 : Int32)), .int (0 : Int32)]) (fun _ => rfl) (fun u => [obC q qn qt qs qH qx cI cS ad u]) (fun _ => rfl) (fun o ho H locs hP hD hS => ?_)
                        obtain ⟨hab, hg⟩ := ho
                        refine W.lcmp hx hb dL_kept_664 ?_
                        refine lv_if_lt (tgt := 672) hx hb dL_kept_665 (by decide) (fun _ => ?_) (fun c => absurd ((p_ge hlt202 hlt467 hne).mpr (fun q => clk ((p_lk hlt202 hlt467 hne).mpr q))) c)
                        refine lv_iconst (v := 0) hx hb dL_kept_672 (by decide) ?_
                        refine iv_ne hx hb 719 dL_kept_673 (by decide) (fun c => absurd (by decide) c) (fun _ => ?_)
                        refine lv_aload_n hx hb dL_kept_676 rfl (lv_at hl 0 rfl) ?_
                        refine lv_iload hx hb dL_kept_677 (lv_at hl 10 rfl) ?_
                        refine lv_bipush (v := 10) hx hb dL_kept_679 (by decide) ?_
                        have hc := oz_clock l G cI cS cL ad mp q qn qt qs qH qx (o := o) hg (nI k467) (10 : Int32) (clk_ok hlt467) (by decide)
                        rw [hab] at hc
                        refine co_callH (As := [.ref (q 0), .int (nI k467), .int (10 : Int32)]) (rest := []) hE hC X hP hD hS hA hc cpH_clock aw_341 ⟨Nat.le_of_ble_eq_true rfl, Nat.le_of_ble_eq_true rfl⟩ [0] (cs := [obC q qn qt qs qH qx cI cS ad o]) rfl (by decide) (fun u => [obC q qn qt qs qH qx cI cS ad u]) (fun _ => rfl) (fun _ => rfl) rfl hl.1 rfl (Nat.le_of_ble_eq_true rfl) dL_kept_681 ⟨Nat.le_of_ble_eq_true rfl, Nat.le_of_ble_eq_true rfl⟩ (st1 := fun _ => [.long (clockA A (nI k467) (10 : Int32))]) (fun _ => rfl) (fun u => [obC q qn qt qs qH qx cI cS ad u]) (fun _ => rfl) (fun o ho H locs hP hD hS => ?_)
                        obtain ⟨hab, hg⟩ := ho
                        refine lv_lload hx hb dL_kept_684 (lv_at hl 8 rfl) ?_
                        refine W.lcmp hx hb dL_kept_686 ?_
                        refine iv_ifne hx hb 694 dL_kept_687 (by decide) (fun cgm => ?_) (fun cgm => ?_)
                        · refine lv_iconst (v := 0) hx hb dL_kept_694 (by decide) ?_
                          refine lv_lload hx hb dL_kept_695 (lv_at hl 8 rfl) ?_
                          refine lv_iload hx hb dL_kept_697 (lv_at hl 10 rfl) ?_
                          refine lv_lshr hx hb dL_kept_699 rfl ?_
                          refine lv_lconst (v := 1) hx hb dL_kept_700 (by decide) ?_
                          refine lv_land hx hb dL_kept_701 ?_
                          refine lv_lconst (v := 1) hx hb dL_kept_702 (by decide) ?_
                          refine W.lcmp hx hb dL_kept_703 ?_
                          refine iv_ifne hx hb 711 dL_kept_704 (by decide) (fun _ => ?_) (fun c => absurd c (fun q => cgm ((p_gm hlt202 hlt467 hne hI).mpr q)))
                          refine lv_iconst (v := 0) hx hb dL_kept_711 (by decide) ?_
                          refine iv_ne hx hb 719 dL_kept_712 (by decide) (fun c => absurd (by decide) c) (fun _ => ?_)
                          refine lv_iconst (v := 1) hx hb dL_kept_715 (by decide) ?_
                          refine lv_goto (tgt := 720) hx hb dL_kept_716 (by decide) ?_
                          refine lv_istore_n (lv' := [(1, .int (1 : Int32)), (0, .ref (q 0)), (3, .int (nI (((dsum (AL (znt A.1) (zse A.1)) k202) + cnt ((AL (znt A.1) (zse A.1)) k202) 0 (k467 + 1))))), (4, .int (nI ((cnt (fun j => decide (g j = j)) 0 (k202 + 1))))), (5, .long (stS (zst A.1) (k202 + 1))), (7, .int (nI k202)), (8, .long (clockA A (nI k202) (2 : Int32))), (10, .long (clockA A (nI k202) (6 : Int32))), (12, .long (clockA A (nI k202) (10 : Int32))), (14, .long (clockA A (nI k202) (8 : Int32))), (16, .int (nI k467)), (17, .long (pairA A (nI k202) (nI k467) (0 : Int32))), (19, .long (pairA A (nI k467) (nI k202) (0 : Int32))), (21, .int (0 : Int32))]) hx hb dL_kept_720 rfl hl (by decide) rfl (fun ls hl => ?_)
                          refine nv_iinc (k := 10) (lv' := [(16, .int (nI ((k467 + 1)))), (1, .int (1 : Int32)), (0, .ref (q 0)), (3, .int (nI (((dsum (AL (znt A.1) (zse A.1)) k202) + cnt ((AL (znt A.1) (zse A.1)) k202) 0 (k467 + 1))))), (4, .int (nI ((cnt (fun j => decide (g j = j)) 0 (k202 + 1))))), (5, .long (stS (zst A.1) (k202 + 1))), (7, .int (nI k202)), (8, .long (clockA A (nI k202) (2 : Int32))), (10, .long (clockA A (nI k202) (6 : Int32))), (12, .long (clockA A (nI k202) (10 : Int32))), (14, .long (clockA A (nI k202) (8 : Int32))), (17, .long (pairA A (nI k202) (nI k467) (0 : Int32))), (19, .long (pairA A (nI k467) (nI k202) (0 : Int32))), (21, .int (0 : Int32))]) hx hb k467 dL_kept_721 hl rfl (by decide) rfl (fun ls hl => ?_)
                          refine lv_goto (tgt := 467) hx hb dL_kept_724 (by decide) ?_
                          exact ih467 (k467 + 1) (by omega) o hab hg _ _ _ hP hD hS (lv_sub hl [0, 3, 2, 1, 4, 5, 6, 7, 8, 9, 10] rfl)
                        · refine lv_iconst (v := 1) hx hb dL_kept_690 (by decide) ?_
                          refine lv_goto (tgt := 695) hx hb dL_kept_691 (by decide) ?_
                          refine lv_lload hx hb dL_kept_695 (lv_at hl 8 rfl) ?_
                          refine lv_iload hx hb dL_kept_697 (lv_at hl 10 rfl) ?_
                          refine lv_lshr hx hb dL_kept_699 rfl ?_
                          refine lv_lconst (v := 1) hx hb dL_kept_700 (by decide) ?_
                          refine lv_land hx hb dL_kept_701 ?_
                          refine lv_lconst (v := 1) hx hb dL_kept_702 (by decide) ?_
                          refine W.lcmp hx hb dL_kept_703 ?_
                          refine iv_ifne hx hb 711 dL_kept_704 (by decide) (fun c => absurd ((p_gm hlt202 hlt467 hne hI).mp cgm) c) (fun _ => ?_)
                          refine lv_iconst (v := 1) hx hb dL_kept_707 (by decide) ?_
                          refine lv_goto (tgt := 712) hx hb dL_kept_708 (by decide) ?_
                          refine iv_ne hx hb 719 dL_kept_712 (by decide) (fun c => absurd (by decide) c) (fun _ => ?_)
                          refine lv_iconst (v := 1) hx hb dL_kept_715 (by decide) ?_
                          refine lv_goto (tgt := 720) hx hb dL_kept_716 (by decide) ?_
                          refine lv_istore_n (lv' := [(1, .int (1 : Int32)), (0, .ref (q 0)), (3, .int (nI (((dsum (AL (znt A.1) (zse A.1)) k202) + cnt ((AL (znt A.1) (zse A.1)) k202) 0 (k467 + 1))))), (4, .int (nI ((cnt (fun j => decide (g j = j)) 0 (k202 + 1))))), (5, .long (stS (zst A.1) (k202 + 1))), (7, .int (nI k202)), (8, .long (clockA A (nI k202) (2 : Int32))), (10, .long (clockA A (nI k202) (6 : Int32))), (12, .long (clockA A (nI k202) (10 : Int32))), (14, .long (clockA A (nI k202) (8 : Int32))), (16, .int (nI k467)), (17, .long (pairA A (nI k202) (nI k467) (0 : Int32))), (19, .long (pairA A (nI k467) (nI k202) (0 : Int32))), (21, .int (0 : Int32))]) hx hb dL_kept_720 rfl hl (by decide) rfl (fun ls hl => ?_)
                          refine nv_iinc (k := 10) (lv' := [(16, .int (nI ((k467 + 1)))), (1, .int (1 : Int32)), (0, .ref (q 0)), (3, .int (nI (((dsum (AL (znt A.1) (zse A.1)) k202) + cnt ((AL (znt A.1) (zse A.1)) k202) 0 (k467 + 1))))), (4, .int (nI ((cnt (fun j => decide (g j = j)) 0 (k202 + 1))))), (5, .long (stS (zst A.1) (k202 + 1))), (7, .int (nI k202)), (8, .long (clockA A (nI k202) (2 : Int32))), (10, .long (clockA A (nI k202) (6 : Int32))), (12, .long (clockA A (nI k202) (10 : Int32))), (14, .long (clockA A (nI k202) (8 : Int32))), (17, .long (pairA A (nI k202) (nI k467) (0 : Int32))), (19, .long (pairA A (nI k467) (nI k202) (0 : Int32))), (21, .int (0 : Int32))]) hx hb k467 dL_kept_721 hl rfl (by decide) rfl (fun ls hl => ?_)
                          refine lv_goto (tgt := 467) hx hb dL_kept_724 (by decide) ?_
                          exact ih467 (k467 + 1) (by omega) o hab hg _ _ _ hP hD hS (lv_sub hl [0, 3, 2, 1, 4, 5, 6, 7, 8, 9, 10] rfl)
                      refine lv_lload hx hb dL_kept_553 (lv_at hl 3 rfl) ?_
                      refine lv_lload hx hb dL_kept_555 (lv_at hl 2 rfl) ?_
                      refine lv_lneg hx hb dL_kept_557 ?_
                      refine W.lcmp hx hb dL_kept_558 ?_
                      refine lv_if_eq (tgt := 580) hx hb dL_kept_559 (by decide) (fun can => ?_) (fun can => ?_)
                      · exact m580 o hab hg _ _ _ hP hD hS (lv_sub hl [5, 6, 0, 7, 8, 9, 10, 11, 12, 13, 4, 3, 2, 1] rfl)
                      · refine lv_lload hx hb dL_kept_562 (lv_at hl 3 rfl) ?_
                        refine lv_ldc2 hx hb hown (hw _ aw_677) dL_kept_564 ?_
                        refine W.lcmp hx hb dL_kept_567 ?_
                        refine iv_ifne hx hb 719 dL_kept_568 (by decide) (fun c => absurd ((p_anti hlt202 hlt467 hne hI can).1) c) (fun _ => ?_)
                        refine lv_lload hx hb dL_kept_571 (lv_at hl 2 rfl) ?_
                        refine lv_ldc2 hx hb hown (hw _ aw_677) dL_kept_573 ?_
                        refine W.lcmp hx hb dL_kept_576 ?_
                        refine iv_ifne hx hb 719 dL_kept_577 (by decide) (fun c => absurd ((p_anti hlt202 hlt467 hne hI can).2) c) (fun _ => ?_)
                        exact m580 o hab hg _ _ _ hP hD hS (lv_sub hl [5, 6, 0, 7, 8, 9, 10, 11, 12, 13, 4, 3, 2, 1] rfl)
                    · refine lv_iconst (v := 1) hx hb dL_kept_519 (by decide) ?_
                      refine lv_goto (tgt := 524) hx hb dL_kept_520 (by decide) ?_
                      refine lv_istore (lv' := [(21, .int (1 : Int32)), (19, .long (pairA A (nI k467) (nI k202) (0 : Int32))), (17, .long (pairA A (nI k202) (nI k467) (0 : Int32))), (16, .int (nI k467)), (3, .int (nI (((dsum (AL (znt A.1) (zse A.1)) k202) + cnt ((AL (znt A.1) (zse A.1)) k202) 0 k467)))), (0, .ref (q 0)), (1, .int (1 : Int32)), (4, .int (nI ((cnt (fun j => decide (g j = j)) 0 (k202 + 1))))), (5, .long (stS (zst A.1) (k202 + 1))), (7, .int (nI k202)), (8, .long (clockA A (nI k202) (2 : Int32))), (10, .long (clockA A (nI k202) (6 : Int32))), (12, .long (clockA A (nI k202) (10 : Int32))), (14, .long (clockA A (nI k202) (8 : Int32)))]) hx hb dL_kept_524 hl (by decide) rfl (fun ls hl => ?_)
                      refine lv_iload_n hx hb dL_kept_526 rfl (lv_at hl 4 rfl) ?_
                      refine lv_iload hx hb dL_kept_527 (lv_at hl 0 rfl) ?_
                      refine lv_if_eq (tgt := 536) hx hb dL_kept_529 (by decide) (fun c => absurd c (by decide)) (fun _ => ?_)
                      refine lv_iconst (v := 1) hx hb dL_kept_532 (by decide) ?_
                      refine lv_goto (tgt := 537) hx hb dL_kept_533 (by decide) ?_
                      refine nv_iadd hx hb ((dsum (AL (znt A.1) (zse A.1)) k202) + cnt ((AL (znt A.1) (zse A.1)) k202) 0 k467) 1 dL_kept_537 ?_
                      refine W.eq (g2 := F0 m 538 ls [.int (nI (((dsum (AL (znt A.1) (zse A.1)) k202) + cnt ((AL (znt A.1) (zse A.1)) k202) 0 (k467 + 1))))]) (by rw [c_on (B := (AL (znt A.1) (zse A.1)) k202) ((p_lk hlt202 hlt467 hne).mp clk)] <;> rfl) ?_
                      refine lv_istore_n (lv' := [(3, .int (nI (((dsum (AL (znt A.1) (zse A.1)) k202) + cnt ((AL (znt A.1) (zse A.1)) k202) 0 (k467 + 1))))), (21, .int (1 : Int32)), (19, .long (pairA A (nI k467) (nI k202) (0 : Int32))), (17, .long (pairA A (nI k202) (nI k467) (0 : Int32))), (16, .int (nI k467)), (0, .ref (q 0)), (1, .int (1 : Int32)), (4, .int (nI ((cnt (fun j => decide (g j = j)) 0 (k202 + 1))))), (5, .long (stS (zst A.1) (k202 + 1))), (7, .int (nI k202)), (8, .long (clockA A (nI k202) (2 : Int32))), (10, .long (clockA A (nI k202) (6 : Int32))), (12, .long (clockA A (nI k202) (10 : Int32))), (14, .long (clockA A (nI k202) (8 : Int32)))]) hx hb dL_kept_538 rfl hl (by decide) rfl (fun ls hl => ?_)
                      refine lv_lload hx hb dL_kept_539 (lv_at hl 3 rfl) ?_
                      refine lv_ldc2 hx hb hown (hw _ aw_677) dL_kept_541 ?_
                      refine lv_ldc2 hx hb hown (hw _ aw_678) dL_kept_544 ?_
                      refine ct_callS (As := [.long (pairA A (nI k202) (nI k467) (0 : Int32)), .long (-500 : Int64), .long (499 : Int64)]) (rest := []) X hP hD hS hA (k_L_in l G cI cS cL (pairA A (nI k202) (nI k467) (0 : Int32)) (-500 : Int64) (499 : Int64)) cpS_in aw_667 ⟨Nat.le_of_ble_eq_true rfl, Nat.le_of_ble_eq_true rfl⟩ [] (cs := []) rfl (by decide) (cs' := []) rfl rfl rfl hl.1 rfl (Nat.le_of_ble_eq_true rfl) dL_kept_547 ⟨Nat.le_of_ble_eq_true rfl, Nat.le_of_ble_eq_true rfl⟩ rfl (bs' := [obC q qn qt qs qH qx cI cS ad o]) rfl (fun H locs hP hD hS => ?_)
                      refine lv_if_eq (tgt := 719) hx hb dL_kept_550 (by decide) (fun c => absurd c (in_nz (p_gap hlt202 hlt467 hne hI))) (fun _ => ?_)
                      have m580 : ∀ (o : Ob) (hab : aob o = A) (hg : Gd o) (H : Heap) (locs : List Loc) (ls : Array Slot), va_P G classes [obC q qn qt qs qH qx cI cS ad o].flatten H → va_D A0 [obC q qn qt qs qH qx cI cS ad o].flatten → va_S A0 s.heap H locs → lv_has ls 22 [(0, .ref (q 0)), (1, .int (1 : Int32)), (3, .int (nI (((dsum (AL (znt A.1) (zse A.1)) k202) + cnt ((AL (znt A.1) (zse A.1)) k202) 0 (k467 + 1))))), (4, .int (nI ((cnt (fun j => decide (g j = j)) 0 (k202 + 1))))), (5, .long (stS (zst A.1) (k202 + 1))), (7, .int (nI k202)), (8, .long (clockA A (nI k202) (2 : Int32))), (10, .long (clockA A (nI k202) (6 : Int32))), (12, .long (clockA A (nI k202) (10 : Int32))), (14, .long (clockA A (nI k202) (8 : Int32))), (16, .int (nI k467)), (17, .long (pairA A (nI k202) (nI k467) (0 : Int32))), (19, .long (pairA A (nI k467) (nI k202) (0 : Int32))), (21, .int (1 : Int32))] → W p l e ({ frames := 7, cells := 0, slots := 0, locals := 159 } : Room) s m args below meth c H locs 0 0 QQ (F0 m 580 ls []) := by
                        intro o hab hg H locs ls hP hD hS hl
                        refine lv_aload_n hx hb dL_kept_580 rfl (lv_at hl 0 rfl) ?_
                        refine lv_iload hx hb dL_kept_581 (lv_at hl 10 rfl) ?_
                        refine lv_iconst (v := 2) hx hb dL_kept_583 (by decide) ?_
                        have hc := oz_clock l G cI cS cL ad mp q qn qt qs qH qx (o := o) hg (nI k467) (2 : Int32) (clk_ok hlt467) (by decide)
                        rw [hab] at hc
                        refine co_callH (As := [.ref (q 0), .int (nI k467), .int (2 : Int32)]) (rest := []) hE hC X hP hD hS hA hc cpH_clock aw_341 ⟨Nat.le_of_ble_eq_true rfl, Nat.le_of_ble_eq_true rfl⟩ [0] (cs := [obC q qn qt qs qH qx cI cS ad o]) rfl (by decide) (fun u => [obC q qn qt qs qH qx cI cS ad u]) (fun _ => rfl) (fun _ => rfl) rfl hl.1 rfl (Nat.le_of_ble_eq_true rfl) dL_kept_584 ⟨Nat.le_of_ble_eq_true rfl, Nat.le_of_ble_eq_true rfl⟩ (st1 := fun _ => [.long (clockA A (nI k467) (2 : Int32))]) (fun _ => rfl) (fun u => [obC q qn qt qs qH qx cI cS ad u]) (fun _ => rfl) (fun o ho H locs hP hD hS => ?_)
                        obtain ⟨hab, hg⟩ := ho
                        refine lv_lload hx hb dL_kept_587 (lv_at hl 6 rfl) ?_
                        refine lv_lsub hx hb dL_kept_589 ?_
                        refine lv_lload hx hb dL_kept_590 (lv_at hl 11 rfl) ?_
                        refine lv_lsub hx hb dL_kept_592 ?_
                        refine lv_ldc2 hx hb hown (hw _ aw_675) dL_kept_593 ?_
                        refine lv_lrem hx hb dL_kept_596 (by decide) ?_
                        refine lv_lconst (v := 0) hx hb dL_kept_597 (by decide) ?_
                        refine W.lcmp hx hb dL_kept_598 ?_
                        refine iv_ifne hx hb 719 dL_kept_599 (by decide) (fun c => absurd (by rw [p_cong hlt202 hlt467 hne hI]; exact lg_self _) c) (fun _ => ?_)
                        refine lv_aload_n hx hb dL_kept_602 rfl (lv_at hl 0 rfl) ?_
                        refine lv_iload hx hb dL_kept_603 (lv_at hl 5 rfl) ?_
                        refine lv_iload hx hb dL_kept_605 (lv_at hl 10 rfl) ?_
                        refine lv_iconst (v := 1) hx hb dL_kept_607 (by decide) ?_
                        have hc := oz_pair l G cI cS cL ad mp q qn qt qs qH qx (o := o) hg (nI k202) (nI k467) (1 : Int32) (par_ok hlt202 hlt467 hne) (by decide)
                        rw [hab] at hc
                        refine co_callH (As := [.ref (q 0), .int (nI k202), .int (nI k467), .int (1 : Int32)]) (rest := []) hE hC X hP hD hS hA hc cpH_pair aw_396 ⟨Nat.le_of_ble_eq_true rfl, Nat.le_of_ble_eq_true rfl⟩ [0] (cs := [obC q qn qt qs qH qx cI cS ad o]) rfl (by decide) (fun u => [obC q qn qt qs qH qx cI cS ad u]) (fun _ => rfl) (fun _ => rfl) rfl hl.1 rfl (Nat.le_of_ble_eq_true rfl) dL_kept_608 ⟨Nat.le_of_ble_eq_true rfl, Nat.le_of_ble_eq_true rfl⟩ (st1 := fun _ => [.long (pairA A (nI k202) (nI k467) (1 : Int32))]) (fun _ => rfl) (fun u => [obC q qn qt qs qH qx cI cS ad u]) (fun _ => rfl) (fun o ho H locs hP hD hS => ?_)
                        obtain ⟨hab, hg⟩ := ho
                        refine lv_aload_n hx hb dL_kept_611 rfl (lv_at hl 0 rfl) ?_
                        refine lv_iload hx hb dL_kept_612 (lv_at hl 10 rfl) ?_
                        refine lv_iload hx hb dL_kept_614 (lv_at hl 5 rfl) ?_
                        refine lv_iconst (v := 1) hx hb dL_kept_616 (by decide) ?_
                        have hc := oz_pair l G cI cS cL ad mp q qn qt qs qH qx (o := o) hg (nI k467) (nI k202) (1 : Int32) (par_ok hlt467 hlt202 (fun q => hne q.symm)) (by decide)
                        rw [hab] at hc
                        refine co_callH (As := [.ref (q 0), .int (nI k467), .int (nI k202), .int (1 : Int32)]) (rest := [.long (pairA A (nI k202) (nI k467) (1 : Int32))]) hE hC X hP hD hS hA hc cpH_pair aw_396 ⟨Nat.le_of_ble_eq_true rfl, Nat.le_of_ble_eq_true rfl⟩ [0] (cs := [obC q qn qt qs qH qx cI cS ad o]) rfl (by decide) (fun u => [obC q qn qt qs qH qx cI cS ad u]) (fun _ => rfl) (fun _ => rfl) rfl hl.1 rfl (Nat.le_of_ble_eq_true rfl) dL_kept_617 ⟨Nat.le_of_ble_eq_true rfl, Nat.le_of_ble_eq_true rfl⟩ (st1 := fun _ => [.long (pairA A (nI k467) (nI k202) (1 : Int32)), .long (pairA A (nI k202) (nI k467) (1 : Int32))]) (fun _ => rfl) (fun u => [obC q qn qt qs qH qx cI cS ad u]) (fun _ => rfl) (fun o ho H locs hP hD hS => ?_)
                        obtain ⟨hab, hg⟩ := ho
                        refine W.lcmp hx hb dL_kept_620 ?_
                        refine iv_ifne hx hb 719 dL_kept_621 (by decide) (fun c => absurd (p_near hlt202 hlt467 hne hI) c) (fun _ => ?_)
                        refine lv_aload_n hx hb dL_kept_624 rfl (lv_at hl 0 rfl) ?_
                        refine lv_iload hx hb dL_kept_625 (lv_at hl 5 rfl) ?_
                        refine lv_iload hx hb dL_kept_627 (lv_at hl 10 rfl) ?_
                        refine lv_iconst (v := 2) hx hb dL_kept_629 (by decide) ?_
                        have hc := oz_pair l G cI cS cL ad mp q qn qt qs qH qx (o := o) hg (nI k202) (nI k467) (2 : Int32) (par_ok hlt202 hlt467 hne) (by decide)
                        rw [hab] at hc
                        refine co_callH (As := [.ref (q 0), .int (nI k202), .int (nI k467), .int (2 : Int32)]) (rest := []) hE hC X hP hD hS hA hc cpH_pair aw_396 ⟨Nat.le_of_ble_eq_true rfl, Nat.le_of_ble_eq_true rfl⟩ [0] (cs := [obC q qn qt qs qH qx cI cS ad o]) rfl (by decide) (fun u => [obC q qn qt qs qH qx cI cS ad u]) (fun _ => rfl) (fun _ => rfl) rfl hl.1 rfl (Nat.le_of_ble_eq_true rfl) dL_kept_630 ⟨Nat.le_of_ble_eq_true rfl, Nat.le_of_ble_eq_true rfl⟩ (st1 := fun _ => [.long (pairA A (nI k202) (nI k467) (2 : Int32))]) (fun _ => rfl) (fun u => [obC q qn qt qs qH qx cI cS ad u]) (fun _ => rfl) (fun o ho H locs hP hD hS => ?_)
                        obtain ⟨hab, hg⟩ := ho
                        refine lv_lconst (v := 0) hx hb dL_kept_633 (by decide) ?_
                        refine W.lcmp hx hb dL_kept_634 ?_
                        refine iv_ifne hx hb 642 dL_kept_635 (by decide) (fun c => absurd ((p_why hlt202 hlt467 hne).mpr ((p_lk hlt202 hlt467 hne).mp clk)) c) (fun _ => ?_)
                        refine lv_iconst (v := 1) hx hb dL_kept_638 (by decide) ?_
                        refine lv_goto (tgt := 643) hx hb dL_kept_639 (by decide) ?_
                        refine lv_iload hx hb dL_kept_643 (lv_at hl 13 rfl) ?_
                        refine iv_ne hx hb 719 dL_kept_645 (by decide) (fun c => absurd (by decide) c) (fun _ => ?_)
                        refine lv_iload hx hb dL_kept_648 (lv_at hl 13 rfl) ?_
                        refine lv_aload_n hx hb dL_kept_650 rfl (lv_at hl 0 rfl) ?_
                        refine lv_iload hx hb dL_kept_651 (lv_at hl 5 rfl) ?_
                        refine lv_iload hx hb dL_kept_653 (lv_at hl 10 rfl) ?_
                        refine lv_iconst (v := 1) hx hb dL_kept_655 (by decide) ?_
                        have hc := oz_pair l G cI cS cL ad mp q qn qt qs qH qx (o := o) hg (nI k202) (nI k467) (1 : Int32) (par_ok hlt202 hlt467 hne) (by decide)
                        rw [hab] at hc
                        refine co_callH (As := [.ref (q 0), .int (nI k202), .int (nI k467), .int (1 : Int32)]) (rest := [.int (1 : Int32)]) hE hC X hP hD hS hA hc cpH_pair aw_396 ⟨Nat.le_of_ble_eq_true rfl, Nat.le_of_ble_eq_true rfl⟩ [0] (cs := [obC q qn qt qs qH qx cI cS ad o]) rfl (by decide) (fun u => [obC q qn qt qs qH qx cI cS ad u]) (fun _ => rfl) (fun _ => rfl) rfl hl.1 rfl (Nat.le_of_ble_eq_true rfl) dL_kept_656 ⟨Nat.le_of_ble_eq_true rfl, Nat.le_of_ble_eq_true rfl⟩ (st1 := fun _ => [.long (pairA A (nI k202) (nI k467) (1 : Int32)), .int (1 : Int32)]) (fun _ => rfl) (fun u => [obC q qn qt qs qH qx cI cS ad u]) (fun _ => rfl) (fun o ho H locs hP hD hS => ?_)
                        obtain ⟨hab, hg⟩ := ho
                        refine lv_aload_n hx hb dL_kept_659 rfl (lv_at hl 0 rfl) ?_
                        refine lv_iconst (v := 2) hx hb dL_kept_660 (by decide) ?_
                        have hc := oz_setting l G cI cS cL ad mp q qn qt qs qH qx (o := o) hg (2 : Int32) (by decide)
                        rw [hab] at hc
                        refine co_callH (As := [.ref (q 0), .int (2 : Int32)]) (rest := [.long (pairA A (nI k202) (nI k467) (1 : Int32)), .int (1 : Int32)]) hE hC X hP hD hS hA hc cpH_setting aw_454 ⟨Nat.le_of_ble_eq_true rfl, Nat.le_of_ble_eq_true rfl⟩ [0] (cs := [obC q qn qt qs qH qx cI cS ad o]) rfl (by decide) (fun u => [obC q qn qt qs qH qx cI cS ad u]) (fun _ => rfl) (fun _ => rfl) rfl hl.1 rfl (Nat.le_of_ble_eq_true rfl) dL_kept_661 ⟨Nat.le_of_ble_eq_true rfl, Nat.le_of_ble_eq_true rfl⟩ (st1 := fun _ => [.long (settingA A (2 : Int32)), .long (pairA A (nI k202) (nI k467) (1 : Int32)), .int (1 : Int32)]) (fun _ => rfl) (fun u => [obC q qn qt qs qH qx cI cS ad u]) (fun _ => rfl) (fun o ho H locs hP hD hS => ?_)
                        obtain ⟨hab, hg⟩ := ho
                        refine W.lcmp hx hb dL_kept_664 ?_
                        refine lv_if_lt (tgt := 672) hx hb dL_kept_665 (by decide) (fun c => absurd c (fun q => (p_ge hlt202 hlt467 hne).mp q ((p_lk hlt202 hlt467 hne).mp clk))) (fun _ => ?_)
                        refine lv_iconst (v := 1) hx hb dL_kept_668 (by decide) ?_
                        refine lv_goto (tgt := 673) hx hb dL_kept_669 (by decide) ?_
                        refine iv_ne hx hb 719 dL_kept_673 (by decide) (fun c => absurd (by decide) c) (fun _ => ?_)
                        refine lv_aload_n hx hb dL_kept_676 rfl (lv_at hl 0 rfl) ?_
                        refine lv_iload hx hb dL_kept_677 (lv_at hl 10 rfl) ?_
                        refine lv_bipush (v := 10) hx hb dL_kept_679 (by decide) ?_
                        have hc := oz_clock l G cI cS cL ad mp q qn qt qs qH qx (o := o) hg (nI k467) (10 : Int32) (clk_ok hlt467) (by decide)
                        rw [hab] at hc
                        refine co_callH (As := [.ref (q 0), .int (nI k467), .int (10 : Int32)]) (rest := []) hE hC X hP hD hS hA hc cpH_clock aw_341 ⟨Nat.le_of_ble_eq_true rfl, Nat.le_of_ble_eq_true rfl⟩ [0] (cs := [obC q qn qt qs qH qx cI cS ad o]) rfl (by decide) (fun u => [obC q qn qt qs qH qx cI cS ad u]) (fun _ => rfl) (fun _ => rfl) rfl hl.1 rfl (Nat.le_of_ble_eq_true rfl) dL_kept_681 ⟨Nat.le_of_ble_eq_true rfl, Nat.le_of_ble_eq_true rfl⟩ (st1 := fun _ => [.long (clockA A (nI k467) (10 : Int32))]) (fun _ => rfl) (fun u => [obC q qn qt qs qH qx cI cS ad u]) (fun _ => rfl) (fun o ho H locs hP hD hS => ?_)
                        obtain ⟨hab, hg⟩ := ho
                        refine lv_lload hx hb dL_kept_684 (lv_at hl 8 rfl) ?_
                        refine W.lcmp hx hb dL_kept_686 ?_
                        refine iv_ifne hx hb 694 dL_kept_687 (by decide) (fun cgm => ?_) (fun cgm => ?_)
                        · refine lv_iconst (v := 0) hx hb dL_kept_694 (by decide) ?_
                          refine lv_lload hx hb dL_kept_695 (lv_at hl 8 rfl) ?_
                          refine lv_iload hx hb dL_kept_697 (lv_at hl 10 rfl) ?_
                          refine lv_lshr hx hb dL_kept_699 rfl ?_
                          refine lv_lconst (v := 1) hx hb dL_kept_700 (by decide) ?_
                          refine lv_land hx hb dL_kept_701 ?_
                          refine lv_lconst (v := 1) hx hb dL_kept_702 (by decide) ?_
                          refine W.lcmp hx hb dL_kept_703 ?_
                          refine iv_ifne hx hb 711 dL_kept_704 (by decide) (fun _ => ?_) (fun c => absurd c (fun q => cgm ((p_gm hlt202 hlt467 hne hI).mpr q)))
                          refine lv_iconst (v := 0) hx hb dL_kept_711 (by decide) ?_
                          refine iv_ne hx hb 719 dL_kept_712 (by decide) (fun c => absurd (by decide) c) (fun _ => ?_)
                          refine lv_iconst (v := 1) hx hb dL_kept_715 (by decide) ?_
                          refine lv_goto (tgt := 720) hx hb dL_kept_716 (by decide) ?_
                          refine lv_istore_n (lv' := [(1, .int (1 : Int32)), (0, .ref (q 0)), (3, .int (nI (((dsum (AL (znt A.1) (zse A.1)) k202) + cnt ((AL (znt A.1) (zse A.1)) k202) 0 (k467 + 1))))), (4, .int (nI ((cnt (fun j => decide (g j = j)) 0 (k202 + 1))))), (5, .long (stS (zst A.1) (k202 + 1))), (7, .int (nI k202)), (8, .long (clockA A (nI k202) (2 : Int32))), (10, .long (clockA A (nI k202) (6 : Int32))), (12, .long (clockA A (nI k202) (10 : Int32))), (14, .long (clockA A (nI k202) (8 : Int32))), (16, .int (nI k467)), (17, .long (pairA A (nI k202) (nI k467) (0 : Int32))), (19, .long (pairA A (nI k467) (nI k202) (0 : Int32))), (21, .int (1 : Int32))]) hx hb dL_kept_720 rfl hl (by decide) rfl (fun ls hl => ?_)
                          refine nv_iinc (k := 10) (lv' := [(16, .int (nI ((k467 + 1)))), (1, .int (1 : Int32)), (0, .ref (q 0)), (3, .int (nI (((dsum (AL (znt A.1) (zse A.1)) k202) + cnt ((AL (znt A.1) (zse A.1)) k202) 0 (k467 + 1))))), (4, .int (nI ((cnt (fun j => decide (g j = j)) 0 (k202 + 1))))), (5, .long (stS (zst A.1) (k202 + 1))), (7, .int (nI k202)), (8, .long (clockA A (nI k202) (2 : Int32))), (10, .long (clockA A (nI k202) (6 : Int32))), (12, .long (clockA A (nI k202) (10 : Int32))), (14, .long (clockA A (nI k202) (8 : Int32))), (17, .long (pairA A (nI k202) (nI k467) (0 : Int32))), (19, .long (pairA A (nI k467) (nI k202) (0 : Int32))), (21, .int (1 : Int32))]) hx hb k467 dL_kept_721 hl rfl (by decide) rfl (fun ls hl => ?_)
                          refine lv_goto (tgt := 467) hx hb dL_kept_724 (by decide) ?_
                          exact ih467 (k467 + 1) (by omega) o hab hg _ _ _ hP hD hS (lv_sub hl [0, 3, 2, 1, 4, 5, 6, 7, 8, 9, 10] rfl)
                        · refine lv_iconst (v := 1) hx hb dL_kept_690 (by decide) ?_
                          refine lv_goto (tgt := 695) hx hb dL_kept_691 (by decide) ?_
                          refine lv_lload hx hb dL_kept_695 (lv_at hl 8 rfl) ?_
                          refine lv_iload hx hb dL_kept_697 (lv_at hl 10 rfl) ?_
                          refine lv_lshr hx hb dL_kept_699 rfl ?_
                          refine lv_lconst (v := 1) hx hb dL_kept_700 (by decide) ?_
                          refine lv_land hx hb dL_kept_701 ?_
                          refine lv_lconst (v := 1) hx hb dL_kept_702 (by decide) ?_
                          refine W.lcmp hx hb dL_kept_703 ?_
                          refine iv_ifne hx hb 711 dL_kept_704 (by decide) (fun c => absurd ((p_gm hlt202 hlt467 hne hI).mp cgm) c) (fun _ => ?_)
                          refine lv_iconst (v := 1) hx hb dL_kept_707 (by decide) ?_
                          refine lv_goto (tgt := 712) hx hb dL_kept_708 (by decide) ?_
                          refine iv_ne hx hb 719 dL_kept_712 (by decide) (fun c => absurd (by decide) c) (fun _ => ?_)
                          refine lv_iconst (v := 1) hx hb dL_kept_715 (by decide) ?_
                          refine lv_goto (tgt := 720) hx hb dL_kept_716 (by decide) ?_
                          refine lv_istore_n (lv' := [(1, .int (1 : Int32)), (0, .ref (q 0)), (3, .int (nI (((dsum (AL (znt A.1) (zse A.1)) k202) + cnt ((AL (znt A.1) (zse A.1)) k202) 0 (k467 + 1))))), (4, .int (nI ((cnt (fun j => decide (g j = j)) 0 (k202 + 1))))), (5, .long (stS (zst A.1) (k202 + 1))), (7, .int (nI k202)), (8, .long (clockA A (nI k202) (2 : Int32))), (10, .long (clockA A (nI k202) (6 : Int32))), (12, .long (clockA A (nI k202) (10 : Int32))), (14, .long (clockA A (nI k202) (8 : Int32))), (16, .int (nI k467)), (17, .long (pairA A (nI k202) (nI k467) (0 : Int32))), (19, .long (pairA A (nI k467) (nI k202) (0 : Int32))), (21, .int (1 : Int32))]) hx hb dL_kept_720 rfl hl (by decide) rfl (fun ls hl => ?_)
                          refine nv_iinc (k := 10) (lv' := [(16, .int (nI ((k467 + 1)))), (1, .int (1 : Int32)), (0, .ref (q 0)), (3, .int (nI (((dsum (AL (znt A.1) (zse A.1)) k202) + cnt ((AL (znt A.1) (zse A.1)) k202) 0 (k467 + 1))))), (4, .int (nI ((cnt (fun j => decide (g j = j)) 0 (k202 + 1))))), (5, .long (stS (zst A.1) (k202 + 1))), (7, .int (nI k202)), (8, .long (clockA A (nI k202) (2 : Int32))), (10, .long (clockA A (nI k202) (6 : Int32))), (12, .long (clockA A (nI k202) (10 : Int32))), (14, .long (clockA A (nI k202) (8 : Int32))), (17, .long (pairA A (nI k202) (nI k467) (0 : Int32))), (19, .long (pairA A (nI k467) (nI k202) (0 : Int32))), (21, .int (1 : Int32))]) hx hb k467 dL_kept_721 hl rfl (by decide) rfl (fun ls hl => ?_)
                          refine lv_goto (tgt := 467) hx hb dL_kept_724 (by decide) ?_
                          exact ih467 (k467 + 1) (by omega) o hab hg _ _ _ hP hD hS (lv_sub hl [0, 3, 2, 1, 4, 5, 6, 7, 8, 9, 10] rfl)
                      refine lv_lload hx hb dL_kept_553 (lv_at hl 3 rfl) ?_
                      refine lv_lload hx hb dL_kept_555 (lv_at hl 2 rfl) ?_
                      refine lv_lneg hx hb dL_kept_557 ?_
                      refine W.lcmp hx hb dL_kept_558 ?_
                      refine lv_if_eq (tgt := 580) hx hb dL_kept_559 (by decide) (fun can => ?_) (fun can => ?_)
                      · exact m580 o hab hg _ _ _ hP hD hS (lv_sub hl [5, 6, 0, 7, 8, 9, 10, 11, 12, 13, 4, 3, 2, 1] rfl)
                      · refine lv_lload hx hb dL_kept_562 (lv_at hl 3 rfl) ?_
                        refine lv_ldc2 hx hb hown (hw _ aw_677) dL_kept_564 ?_
                        refine W.lcmp hx hb dL_kept_567 ?_
                        refine iv_ifne hx hb 719 dL_kept_568 (by decide) (fun c => absurd ((p_anti hlt202 hlt467 hne hI can).1) c) (fun _ => ?_)
                        refine lv_lload hx hb dL_kept_571 (lv_at hl 2 rfl) ?_
                        refine lv_ldc2 hx hb hown (hw _ aw_677) dL_kept_573 ?_
                        refine W.lcmp hx hb dL_kept_576 ?_
                        refine iv_ifne hx hb 719 dL_kept_577 (by decide) (fun c => absurd ((p_anti hlt202 hlt467 hne hI can).2) c) (fun _ => ?_)
                        exact m580 o hab hg _ _ _ hP hD hS (lv_sub hl [5, 6, 0, 7, 8, 9, 10, 11, 12, 13, 4, 3, 2, 1] rfl)
              exact lp467 8 0 (by omega) o hab hg _ _ _ hP hD hS (lv_sub hl [0, 3, 2, 1, 4, 5, 6, 7, 8, 9, 10] rfl)
            refine lv_aload_n hx hb dL_kept_373 rfl (lv_at hl 0 rfl) ?_
            refine lv_iload hx hb dL_kept_374 (lv_at hl 5 rfl) ?_
            refine lv_iconst (v := 3) hx hb dL_kept_376 (by decide) ?_
            have hc := oz_clock l G cI cS cL ad mp q qn qt qs qH qx (o := o) hg (nI k202) (3 : Int32) (clk_ok hlt202) (by decide)
            rw [hab] at hc
            refine co_callH (As := [.ref (q 0), .int (nI k202), .int (3 : Int32)]) (rest := []) hE hC X hP hD hS hA hc cpH_clock aw_341 ⟨Nat.le_of_ble_eq_true rfl, Nat.le_of_ble_eq_true rfl⟩ [0] (cs := [obC q qn qt qs qH qx cI cS ad o]) rfl (by decide) (fun u => [obC q qn qt qs qH qx cI cS ad u]) (fun _ => rfl) (fun _ => rfl) rfl hl.1 rfl (Nat.le_of_ble_eq_true rfl) dL_kept_377 ⟨Nat.le_of_ble_eq_true rfl, Nat.le_of_ble_eq_true rfl⟩ (st1 := fun _ => [.long (clockA A (nI k202) (3 : Int32))]) (fun _ => rfl) (fun u => [obC q qn qt qs qH qx cI cS ad u]) (fun _ => rfl) (fun o ho H locs hP hD hS => ?_)
            obtain ⟨hab, hg⟩ := ho
            refine lv_lconst (v := 0) hx hb dL_kept_380 (by decide) ?_
            refine W.lcmp hx hb dL_kept_381 ?_
            refine lv_if_gt (tgt := 397) hx hb dL_kept_382 (by decide) (fun cst => ?_) (fun cst => ?_)
            · exact m397 o hab hg _ _ _ hP hD hS (lv_sub hl [0, 1, 2, 3, 4, 5, 6, 7, 8, 9] rfl)
            · refine lv_aload_n hx hb dL_kept_385 rfl (lv_at hl 0 rfl) ?_
              refine lv_iload hx hb dL_kept_386 (lv_at hl 5 rfl) ?_
              refine lv_iconst (v := 5) hx hb dL_kept_388 (by decide) ?_
              have hc := oz_clock l G cI cS cL ad mp q qn qt qs qH qx (o := o) hg (nI k202) (5 : Int32) (clk_ok hlt202) (by decide)
              rw [hab] at hc
              refine co_callH (As := [.ref (q 0), .int (nI k202), .int (5 : Int32)]) (rest := []) hE hC X hP hD hS hA hc cpH_clock aw_341 ⟨Nat.le_of_ble_eq_true rfl, Nat.le_of_ble_eq_true rfl⟩ [0] (cs := [obC q qn qt qs qH qx cI cS ad o]) rfl (by decide) (fun u => [obC q qn qt qs qH qx cI cS ad u]) (fun _ => rfl) (fun _ => rfl) rfl hl.1 rfl (Nat.le_of_ble_eq_true rfl) dL_kept_389 ⟨Nat.le_of_ble_eq_true rfl, Nat.le_of_ble_eq_true rfl⟩ (st1 := fun _ => [.long (clockA A (nI k202) (5 : Int32))]) (fun _ => rfl) (fun u => [obC q qn qt qs qH qx cI cS ad u]) (fun _ => rfl) (fun o ho H locs hP hD hS => ?_)
              obtain ⟨hab, hg⟩ := ho
              refine lv_lconst (v := 0) hx hb dL_kept_392 (by decide) ?_
              refine W.lcmp hx hb dL_kept_393 ?_
              refine iv_ifne hx hb 462 dL_kept_394 (by decide) (fun c => absurd (f_still hlt202 cst) c) (fun _ => ?_)
              exact m397 o hab hg _ _ _ hP hD hS (lv_sub hl [0, 1, 2, 3, 4, 5, 6, 7, 8, 9] rfl)
          refine lv_iload hx hb dL_kept_264 (lv_at hl 7 rfl) ?_
          refine lv_aload_n hx hb dL_kept_266 rfl (lv_at hl 8 rfl) ?_
          refine lv_iload hx hb dL_kept_267 (lv_at hl 5 rfl) ?_
          refine lv_bipush (v := 9) hx hb dL_kept_269 (by decide) ?_
          have hc := oz_clock l G cI cS cL ad mp q qn qt qs qH qx (o := o) hg (nI k202) (9 : Int32) (clk_ok hlt202) (by decide)
          rw [hab] at hc
          refine co_callH (As := [.ref (q 0), .int (nI k202), .int (9 : Int32)]) (rest := [.int (nI ((cnt (fun j => decide (g j = j)) 0 k202)))]) hE hC X hP hD hS hA hc cpH_clock aw_341 ⟨Nat.le_of_ble_eq_true rfl, Nat.le_of_ble_eq_true rfl⟩ [0] (cs := [obC q qn qt qs qH qx cI cS ad o]) rfl (by decide) (fun u => [obC q qn qt qs qH qx cI cS ad u]) (fun _ => rfl) (fun _ => rfl) rfl hl.1 rfl (Nat.le_of_ble_eq_true rfl) dL_kept_271 ⟨Nat.le_of_ble_eq_true rfl, Nat.le_of_ble_eq_true rfl⟩ (st1 := fun _ => [.long (clockA A (nI k202) (9 : Int32)), .int (nI ((cnt (fun j => decide (g j = j)) 0 k202)))]) (fun _ => rfl) (fun u => [obC q qn qt qs qH qx cI cS ad u]) (fun _ => rfl) (fun o ho H locs hP hD hS => ?_)
          obtain ⟨hab, hg⟩ := ho
          refine lv_iload hx hb dL_kept_274 (lv_at hl 5 rfl) ?_
          refine lv_i2l hx hb dL_kept_276 rfl ?_
          refine W.lcmp hx hb dL_kept_277 ?_
          refine iv_ifne hx hb 285 dL_kept_278 (by decide) (fun clo => ?_) (fun clo => ?_)
          · refine lv_iconst (v := 0) hx hb dL_kept_285 (by decide) ?_
            refine nv_iadd hx hb (cnt (fun j => decide (g j = j)) 0 k202) 0 dL_kept_286 ?_
            refine W.eq (g2 := F0 m 287 ls [.int (nI ((cnt (fun j => decide (g j = j)) 0 (k202 + 1))))]) (by rw [lo_off (fun q => clo ((r_lo hlt202 hgl).mpr q))] <;> rfl) ?_
            refine lv_istore (lv' := [(4, .int (nI ((cnt (fun j => decide (g j = j)) 0 (k202 + 1))))), (5, .long (stS (zst A.1) (k202 + 1))), (14, .long (clockA A (nI k202) (8 : Int32))), (12, .long (clockA A (nI k202) (10 : Int32))), (10, .long (clockA A (nI k202) (6 : Int32))), (8, .long (clockA A (nI k202) (2 : Int32))), (7, .int (nI k202)), (3, .int (nI ((dsum (AL (znt A.1) (zse A.1)) k202)))), (0, .ref (q 0)), (1, .int (1 : Int32))]) hx hb dL_kept_287 hl (by decide) rfl (fun ls hl => ?_)
            exact m289 o hab hg _ _ _ hP hD hS (lv_sub hl [8, 9, 7, 0, 1, 6, 5, 4, 3, 2] rfl)
          · refine lv_iconst (v := 1) hx hb dL_kept_281 (by decide) ?_
            refine lv_goto (tgt := 286) hx hb dL_kept_282 (by decide) ?_
            refine nv_iadd hx hb (cnt (fun j => decide (g j = j)) 0 k202) 1 dL_kept_286 ?_
            refine W.eq (g2 := F0 m 287 ls [.int (nI ((cnt (fun j => decide (g j = j)) 0 (k202 + 1))))]) (by rw [lo_on ((r_lo hlt202 hgl).mp clo)] <;> rfl) ?_
            refine lv_istore (lv' := [(4, .int (nI ((cnt (fun j => decide (g j = j)) 0 (k202 + 1))))), (5, .long (stS (zst A.1) (k202 + 1))), (14, .long (clockA A (nI k202) (8 : Int32))), (12, .long (clockA A (nI k202) (10 : Int32))), (10, .long (clockA A (nI k202) (6 : Int32))), (8, .long (clockA A (nI k202) (2 : Int32))), (7, .int (nI k202)), (3, .int (nI ((dsum (AL (znt A.1) (zse A.1)) k202)))), (0, .ref (q 0)), (1, .int (1 : Int32))]) hx hb dL_kept_287 hl (by decide) rfl (fun ls hl => ?_)
            exact m289 o hab hg _ _ _ hP hD hS (lv_sub hl [8, 9, 7, 0, 1, 6, 5, 4, 3, 2] rfl)
      exact lp202 8 0 (by omega) o hab hg _ _ _ hP hD hS (lv_sub hl [0, 4, 5, 6, 3, 1] rfl)
    | succ n ih95 =>
      intro k95 hk o hab hg H locs ls hP hD hS hl
      have hlt95 : k95 < 3 := by omega
      refine lv_iload hx hb dL_kept_95 (lv_at hl 0 rfl) ?_
      refine lv_iconst (v := 3) hx hb dL_kept_97 (by decide) ?_
      refine nv_ge hx hb k95 3 182 (by omega) (by omega) dL_kept_98 (by decide) (fun c => absurd c (by omega)) (fun _ => ?_)
      refine lv_iload_n hx hb dL_kept_101 rfl (lv_at hl 3 rfl) ?_
      refine lv_if_eq (tgt := 182) hx hb dL_kept_102 (by decide) (fun c => absurd c (by decide)) (fun _ => ?_)
      refine lv_aload_n hx hb dL_kept_105 rfl (lv_at hl 2 rfl) ?_
      refine lv_iload hx hb dL_kept_106 (lv_at hl 0 rfl) ?_
      refine lv_iconst (v := 1) hx hb dL_kept_108 (by decide) ?_
      have hc := oz_beam l G cI cS cL ad mp q qn qt qs qH qx (o := o) hg (nI k95) (1 : Int32) (bm_ok hlt95) (by decide)
      rw [hab] at hc
      refine co_callH (As := [.ref (q 0), .int (nI k95), .int (1 : Int32)]) (rest := []) hE hC X hP hD hS hA hc cpH_beam aw_428 ⟨Nat.le_of_ble_eq_true rfl, Nat.le_of_ble_eq_true rfl⟩ [0] (cs := [obC q qn qt qs qH qx cI cS ad o]) rfl (by decide) (fun u => [obC q qn qt qs qH qx cI cS ad u]) (fun _ => rfl) (fun _ => rfl) rfl hl.1 rfl (Nat.le_of_ble_eq_true rfl) dL_kept_109 ⟨Nat.le_of_ble_eq_true rfl, Nat.le_of_ble_eq_true rfl⟩ (st1 := fun _ => [.long (beamA A (nI k95) (1 : Int32))]) (fun _ => rfl) (fun u => [obC q qn qt qs qH qx cI cS ad u]) (fun _ => rfl) (fun o ho H locs hP hD hS => ?_)
      obtain ⟨hab, hg⟩ := ho
      refine lv_lstore (lv' := [(8, .long (beamA A (nI k95) (1 : Int32))), (7, .int (nI k95)), (2, .int (um (zbm A.1) k95)), (0, .ref (q 0)), (1, .int (1 : Int32)), (3, .int (0 : Int32)), (4, .int (0 : Int32)), (5, .long (0 : Int64))]) hx hb dL_kept_112 hl (by decide) rfl (fun ls hl => ?_)
      refine lv_aload_n hx hb dL_kept_114 rfl (lv_at hl 3 rfl) ?_
      refine lv_iload hx hb dL_kept_115 (lv_at hl 1 rfl) ?_
      refine lv_iconst (v := 2) hx hb dL_kept_117 (by decide) ?_
      have hc := oz_beam l G cI cS cL ad mp q qn qt qs qH qx (o := o) hg (nI k95) (2 : Int32) (bm_ok hlt95) (by decide)
      rw [hab] at hc
      refine co_callH (As := [.ref (q 0), .int (nI k95), .int (2 : Int32)]) (rest := []) hE hC X hP hD hS hA hc cpH_beam aw_428 ⟨Nat.le_of_ble_eq_true rfl, Nat.le_of_ble_eq_true rfl⟩ [0] (cs := [obC q qn qt qs qH qx cI cS ad o]) rfl (by decide) (fun u => [obC q qn qt qs qH qx cI cS ad u]) (fun _ => rfl) (fun _ => rfl) rfl hl.1 rfl (Nat.le_of_ble_eq_true rfl) dL_kept_118 ⟨Nat.le_of_ble_eq_true rfl, Nat.le_of_ble_eq_true rfl⟩ (st1 := fun _ => [.long (beamA A (nI k95) (2 : Int32))]) (fun _ => rfl) (fun u => [obC q qn qt qs qH qx cI cS ad u]) (fun _ => rfl) (fun o ho H locs hP hD hS => ?_)
      obtain ⟨hab, hg⟩ := ho
      refine lv_lstore (lv' := [(10, .long (beamA A (nI k95) (2 : Int32))), (8, .long (beamA A (nI k95) (1 : Int32))), (7, .int (nI k95)), (2, .int (um (zbm A.1) k95)), (0, .ref (q 0)), (1, .int (1 : Int32)), (3, .int (0 : Int32)), (4, .int (0 : Int32)), (5, .long (0 : Int64))]) hx hb dL_kept_121 hl (by decide) rfl (fun ls hl => ?_)
      refine lv_iload_n hx hb dL_kept_123 rfl (lv_at hl 3 rfl) ?_
      refine lv_i2l hx hb dL_kept_124 rfl ?_
      refine lv_lload hx hb dL_kept_125 (lv_at hl 1 rfl) ?_
      refine lv_land hx hb dL_kept_127 ?_
      refine lv_lconst (v := 0) hx hb dL_kept_128 (by decide) ?_
      refine W.lcmp hx hb dL_kept_129 ?_
      refine iv_ifne hx hb 168 dL_kept_130 (by decide) (fun c => absurd (b_dis hlt95) c) (fun _ => ?_)
      refine lv_lload hx hb dL_kept_133 (lv_at hl 0 rfl) ?_
      refine lv_lload hx hb dL_kept_135 (lv_at hl 1 rfl) ?_
      refine lv_ldc2 hx hb hown (hw _ aw_671) dL_kept_137 ?_
      refine lv_lxor hx hb dL_kept_140 ?_
      refine lv_land hx hb dL_kept_141 ?_
      refine lv_lconst (v := 0) hx hb dL_kept_142 (by decide) ?_
      refine W.lcmp hx hb dL_kept_143 ?_
      refine iv_ifne hx hb 168 dL_kept_144 (by decide) (fun c => absurd (b_sub hlt95) c) (fun _ => ?_)
      refine lv_aload_n hx hb dL_kept_147 rfl (lv_at hl 4 rfl) ?_
      refine lv_iload hx hb dL_kept_148 (lv_at hl 2 rfl) ?_
      refine lv_iconst (v := 4) hx hb dL_kept_150 (by decide) ?_
      have hc := oz_beam l G cI cS cL ad mp q qn qt qs qH qx (o := o) hg (nI k95) (4 : Int32) (bm_ok hlt95) (by decide)
      rw [hab] at hc
      refine co_callH (As := [.ref (q 0), .int (nI k95), .int (4 : Int32)]) (rest := []) hE hC X hP hD hS hA hc cpH_beam aw_428 ⟨Nat.le_of_ble_eq_true rfl, Nat.le_of_ble_eq_true rfl⟩ [0] (cs := [obC q qn qt qs qH qx cI cS ad o]) rfl (by decide) (fun u => [obC q qn qt qs qH qx cI cS ad u]) (fun _ => rfl) (fun _ => rfl) rfl hl.1 rfl (Nat.le_of_ble_eq_true rfl) dL_kept_151 ⟨Nat.le_of_ble_eq_true rfl, Nat.le_of_ble_eq_true rfl⟩ (st1 := fun _ => [.long (beamA A (nI k95) (4 : Int32))]) (fun _ => rfl) (fun u => [obC q qn qt qs qH qx cI cS ad u]) (fun _ => rfl) (fun o ho H locs hP hD hS => ?_)
      obtain ⟨hab, hg⟩ := ho
      refine lv_lconst (v := 0) hx hb dL_kept_154 (by decide) ?_
      refine lv_ldc2 hx hb hown (hw _ aw_672) dL_kept_155 ?_
      refine ct_callS (As := [.long (beamA A (nI k95) (4 : Int32)), .long (0 : Int64), .long (500 : Int64)]) (rest := []) X hP hD hS hA (k_L_in l G cI cS cL (beamA A (nI k95) (4 : Int32)) (0 : Int64) (500 : Int64)) cpS_in aw_667 ⟨Nat.le_of_ble_eq_true rfl, Nat.le_of_ble_eq_true rfl⟩ [] (cs := []) rfl (by decide) (cs' := []) rfl rfl rfl hl.1 rfl (Nat.le_of_ble_eq_true rfl) dL_kept_158 ⟨Nat.le_of_ble_eq_true rfl, Nat.le_of_ble_eq_true rfl⟩ rfl (bs' := [obC q qn qt qs qH qx cI cS ad o]) rfl (fun H locs hP hD hS => ?_)
      refine lv_if_eq (tgt := 168) hx hb dL_kept_161 (by decide) (fun c => absurd c (in_nz (b_wid hI hlt95))) (fun _ => ?_)
      refine lv_iconst (v := 1) hx hb dL_kept_164 (by decide) ?_
      refine lv_goto (tgt := 169) hx hb dL_kept_165 (by decide) ?_
      refine lv_istore_n (lv' := [(1, .int (1 : Int32)), (10, .long (beamA A (nI k95) (2 : Int32))), (8, .long (beamA A (nI k95) (1 : Int32))), (7, .int (nI k95)), (2, .int (um (zbm A.1) k95)), (0, .ref (q 0)), (3, .int (0 : Int32)), (4, .int (0 : Int32)), (5, .long (0 : Int64))]) hx hb dL_kept_169 rfl hl (by decide) rfl (fun ls hl => ?_)
      refine lv_iload_n hx hb dL_kept_170 rfl (lv_at hl 4 rfl) ?_
      refine lv_lload hx hb dL_kept_171 (lv_at hl 2 rfl) ?_
      refine lv_l2i hx hb dL_kept_173 rfl ?_
      refine lv_ior hx hb dL_kept_174 ?_
      refine W.eq (g2 := F0 m 175 ls [.int (um (zbm A.1) (k95 + 1))]) (by rw [b_or hlt95] <;> rfl) ?_
      refine lv_istore_n (lv' := [(2, .int (um (zbm A.1) (k95 + 1))), (1, .int (1 : Int32)), (10, .long (beamA A (nI k95) (2 : Int32))), (8, .long (beamA A (nI k95) (1 : Int32))), (7, .int (nI k95)), (0, .ref (q 0)), (3, .int (0 : Int32)), (4, .int (0 : Int32)), (5, .long (0 : Int64))]) hx hb dL_kept_175 rfl hl (by decide) rfl (fun ls hl => ?_)
      refine nv_iinc (k := 4) (lv' := [(7, .int (nI ((k95 + 1)))), (2, .int (um (zbm A.1) (k95 + 1))), (1, .int (1 : Int32)), (10, .long (beamA A (nI k95) (2 : Int32))), (8, .long (beamA A (nI k95) (1 : Int32))), (0, .ref (q 0)), (3, .int (0 : Int32)), (4, .int (0 : Int32)), (5, .long (0 : Int64))]) hx hb k95 dL_kept_176 hl rfl (by decide) rfl (fun ls hl => ?_)
      refine lv_goto (tgt := 95) hx hb dL_kept_179 (by decide) ?_
      exact ih95 (k95 + 1) (by omega) o hab hg _ _ _ hP hD hS (lv_sub hl [0, 1, 5, 2, 6, 7, 8] rfl)
  exact lp95 3 0 (by omega) o hab hg _ _ _ hP hD hS (lv_sub hl [0, 4, 6, 5, 3, 2, 1] rfl)
