def b8 (x : Nat) : Nat := (((((x % 8) + 1) + ((x / 8) % 7))) % 8)
set_option maxRecDepth 100000 in
set_option maxHeartbeats 4000000 in
theorem o_follows (l : Launch) (G : va_G) (cI cS cL : ClassId) (ad : Nat → Nat) (mp : Nat) (q qn qt qs qH qx : Nat → Nat) {o : Ob} (hg : Gd o) {bb : Nat} (hbb : bb ≤ 800000) (hI : IA bb (aob o)) (x : Nat) (hx31 : x < 2 ^ 31) : CtO l G (tyl cI cS cL) ad mp yL_follows (Cond.code yL_follows cL_follows 23 (some .boolean)) 8 183 0 0 [.ref (q 0), .int (nI x)] [obC q qn qt qs qH qx cI cS ad o].flatten (fun u => BK bb (aob o) (aob u) ∧ Gd u) (fun _ => some (.int (1 : Int32))) (fun u => [obC q qn qt qs qH qx cI cS ad u].flatten) := by
  obtain ⟨A, hab⟩ : ∃ A, aob o = A := ⟨_, rfl⟩
  rw [hab] at hI ⊢
  have hB0 : BK bb A A := ⟨rfl, rfl, rfl, hI⟩
  have ha : x % 8 < 8 := by omega
  have hb8 : b8 x < 8 := by unfold b8; omega
  have hne : x % 8 ≠ b8 x := by unfold b8; omega
  refine CtO.of (by decide +kernel) (Nat.le_of_ble_eq_true rfl) ?_
  intro p e s m args below meth c A0 ls hx hb hr hml hw hown hlocks hK hN hC hE hP hD hS hA hl
  have hown : s.vm.findClass RL = some m.cls := hown
  have X : Cx p s m args c cL_follows 23 RL G (tyl cI cS cL) := ⟨hx, hb, hml, hown, hw, hK, hN⟩
  have hP : va_P G classes [obC q qn qt qs qH qx cI cS ad o].flatten s.heap := hP
  have hl : lv_has ls 23 [(0, .ref (q 0)), (1, .int (nI x))] := hl
  generalize hQQ : MQ below _ args s 0 0 A0 = QQ
  refine lv_aload_n hx hb dL_follows_0 rfl (lv_at hl 0 rfl) ?_
  have hc := o_now l G cI cS cL ad mp q qn qt qs qH qx (o := o) hg (by rw [hab]; exact hB0.2.2.2.ns)
  rw [hab] at hc
  refine co_callS (As := [.ref (q 0)]) (rest := []) hE hC X hP hD hS hA hc cpS_now aw_199 ⟨Nat.le_of_ble_eq_true rfl, Nat.le_of_ble_eq_true rfl⟩ [0] (cs := [obC q qn qt qs qH qx cI cS ad o]) rfl (by decide) (fun u => [obC q qn qt qs qH qx cI cS ad u]) (fun _ => rfl) (fun _ => rfl) rfl hl.1 rfl (Nat.le_of_ble_eq_true rfl) dL_follows_1 ⟨Nat.le_of_ble_eq_true rfl, Nat.le_of_ble_eq_true rfl⟩ (st1 := fun _ => [.long (nowV A)]) (fun _ => rfl) (fun u => [obC q qn qt qs qH qx cI cS ad u]) (fun _ => rfl) (fun o ho H locs hP hD hS => ?_)
  obtain ⟨hab, hg⟩ := ho
  refine lv_lstore_n (lv' := [(2, .long (nowV A)), (0, .ref (q 0)), (1, .int (nI x))]) hx hb dL_follows_4 rfl hl (by decide) rfl (fun ls hl => ?_)
  refine lv_iload_n hx hb dL_follows_5 rfl (lv_at hl 2 rfl) ?_
  refine lv_bipush (v := 8) hx hb dL_follows_6 (by decide) ?_
  refine nv_irem hx hb x 8 (by omega) (by omega) (by omega) dL_follows_8 ?_
  refine lv_istore (lv' := [(4, .int (nI ((x % 8)))), (2, .long (nowV A)), (0, .ref (q 0)), (1, .int (nI x))]) hx hb dL_follows_9 hl (by decide) rfl (fun ls hl => ?_)
  refine lv_iload hx hb dL_follows_11 (lv_at hl 0 rfl) ?_
  refine lv_iconst (v := 1) hx hb dL_follows_13 (by decide) ?_
  refine nv_iadd hx hb (x % 8) 1 dL_follows_14 ?_
  refine lv_iload_n hx hb dL_follows_15 rfl (lv_at hl 3 rfl) ?_
  refine lv_bipush (v := 8) hx hb dL_follows_16 (by decide) ?_
  refine lv_idiv hx hb dL_follows_18 (by decide) ?_
  refine W.eq (g2 := F0 m 19 ls [.int (nI ((x / 8))), .int (nI (((x % 8) + 1)))]) (by rw [ndiv 8 (m := (8 : Int32)) rfl (by omega) (by decide) (by decide)]) ?_
  refine lv_bipush (v := 7) hx hb dL_follows_19 (by decide) ?_
  refine nv_irem hx hb (x / 8) 7 (by omega) (by omega) (by omega) dL_follows_21 ?_
  refine nv_iadd hx hb ((x % 8) + 1) ((x / 8) % 7) dL_follows_22 ?_
  refine lv_bipush (v := 8) hx hb dL_follows_23 (by decide) ?_
  refine nv_irem hx hb (((x % 8) + 1) + ((x / 8) % 7)) 8 (by omega) (by omega) (by omega) dL_follows_25 ?_
  refine lv_istore (lv' := [(5, .int (nI (((((x % 8) + 1) + ((x / 8) % 7)) % 8)))), (4, .int (nI ((x % 8)))), (2, .long (nowV A)), (0, .ref (q 0)), (1, .int (nI x))]) hx hb dL_follows_26 hl (by decide) rfl (fun ls hl => ?_)
  have hl : lv_has ls 23 [(5, .int (nI ((b8 x)))), (4, .int (nI ((x % 8)))), (2, .long (nowV A)), (0, .ref (q 0)), (1, .int (nI x))] := hl
  refine lv_iconst (v := 1) hx hb dL_follows_28 (by decide) ?_
  refine lv_iload_n hx hb dL_follows_29 rfl (lv_at hl 4 rfl) ?_
  refine lv_bipush (v := 60) hx hb dL_follows_30 (by decide) ?_
  refine nv_irem hx hb x 60 (by omega) (by omega) (by omega) dL_follows_32 ?_
  refine nv_iadd hx hb 1 (x % 60) dL_follows_33 ?_
  refine lv_istore (lv' := [(6, .int (nI ((1 + (x % 60))))), (5, .int (nI ((b8 x)))), (4, .int (nI ((x % 8)))), (2, .long (nowV A)), (0, .ref (q 0)), (1, .int (nI x))]) hx hb dL_follows_34 hl (by decide) rfl (fun ls hl => ?_)
  refine lv_aload_n hx hb dL_follows_36 rfl (lv_at hl 4 rfl) ?_
  refine lv_iload hx hb dL_follows_37 (lv_at hl 0 rfl) ?_
  refine lv_iload hx hb dL_follows_39 (lv_at hl 2 rfl) ?_
  refine lv_iconst (v := 0) hx hb dL_follows_41 (by decide) ?_
  have hc := oz_ifPassed l G cI cS cL ad mp q qn qt qs qH qx (o := o) hg (nI ((1 + (x % 60)))) (nI ((x % 8))) (0 : Int32) (clk_ok ha) (tk_ok (by omega) (by omega)) (by decide)
  rw [hab] at hc
  refine co_callH (As := [.ref (q 0), .int (nI ((1 + (x % 60)))), .int (nI ((x % 8))), .int (0 : Int32)]) (rest := []) hE hC X hP hD hS hA hc cpH_ifPassed aw_621 ⟨Nat.le_of_ble_eq_true rfl, Nat.le_of_ble_eq_true rfl⟩ [0] (cs := [obC q qn qt qs qH qx cI cS ad o]) rfl (by decide) (fun u => [obC q qn qt qs qH qx cI cS ad u]) (fun _ => rfl) (fun _ => rfl) rfl hl.1 rfl (Nat.le_of_ble_eq_true rfl) dL_follows_42 ⟨Nat.le_of_ble_eq_true rfl, Nat.le_of_ble_eq_true rfl⟩ (st1 := fun _ => [.long (ifPA A (nI ((1 + (x % 60)))) (nI ((x % 8))) (0 : Int32))]) (fun _ => rfl) (fun u => [obC q qn qt qs qH qx cI cS ad u]) (fun _ => rfl) (fun o ho H locs hP hD hS => ?_)
  obtain ⟨hab, hg⟩ := ho
  refine lv_lstore (lv' := [(7, .long (ifPA A (nI ((1 + (x % 60)))) (nI ((x % 8))) (0 : Int32))), (6, .int (nI ((1 + (x % 60))))), (5, .int (nI ((b8 x)))), (4, .int (nI ((x % 8)))), (2, .long (nowV A)), (0, .ref (q 0)), (1, .int (nI x))]) hx hb dL_follows_45 hl (by decide) rfl (fun ls hl => ?_)
  refine lv_aload_n hx hb dL_follows_47 rfl (lv_at hl 5 rfl) ?_
  refine lv_iload hx hb dL_follows_48 (lv_at hl 1 rfl) ?_
  refine lv_iload hx hb dL_follows_50 (lv_at hl 3 rfl) ?_
  refine lv_iconst (v := 1) hx hb dL_follows_52 (by decide) ?_
  have hc := oz_ifPassed l G cI cS cL ad mp q qn qt qs qH qx (o := o) hg (nI ((1 + (x % 60)))) (nI ((x % 8))) (1 : Int32) (clk_ok ha) (tk_ok (by omega) (by omega)) (by decide)
  rw [hab] at hc
  refine co_callH (As := [.ref (q 0), .int (nI ((1 + (x % 60)))), .int (nI ((x % 8))), .int (1 : Int32)]) (rest := []) hE hC X hP hD hS hA hc cpH_ifPassed aw_621 ⟨Nat.le_of_ble_eq_true rfl, Nat.le_of_ble_eq_true rfl⟩ [0] (cs := [obC q qn qt qs qH qx cI cS ad o]) rfl (by decide) (fun u => [obC q qn qt qs qH qx cI cS ad u]) (fun _ => rfl) (fun _ => rfl) rfl hl.1 rfl (Nat.le_of_ble_eq_true rfl) dL_follows_53 ⟨Nat.le_of_ble_eq_true rfl, Nat.le_of_ble_eq_true rfl⟩ (st1 := fun _ => [.long (ifPA A (nI ((1 + (x % 60)))) (nI ((x % 8))) (1 : Int32))]) (fun _ => rfl) (fun u => [obC q qn qt qs qH qx cI cS ad u]) (fun _ => rfl) (fun o ho H locs hP hD hS => ?_)
  obtain ⟨hab, hg⟩ := ho
  refine lv_lstore (lv' := [(9, .long (ifPA A (nI ((1 + (x % 60)))) (nI ((x % 8))) (1 : Int32))), (7, .long (ifPA A (nI ((1 + (x % 60)))) (nI ((x % 8))) (0 : Int32))), (6, .int (nI ((1 + (x % 60))))), (5, .int (nI ((b8 x)))), (4, .int (nI ((x % 8)))), (2, .long (nowV A)), (0, .ref (q 0)), (1, .int (nI x))]) hx hb dL_follows_56 hl (by decide) rfl (fun ls hl => ?_)
  refine lv_aload_n hx hb dL_follows_58 rfl (lv_at hl 6 rfl) ?_
  refine lv_iload hx hb dL_follows_59 (lv_at hl 2 rfl) ?_
  refine lv_iload hx hb dL_follows_61 (lv_at hl 4 rfl) ?_
  refine lv_iconst (v := 2) hx hb dL_follows_63 (by decide) ?_
  have hc := oz_ifPassed l G cI cS cL ad mp q qn qt qs qH qx (o := o) hg (nI ((1 + (x % 60)))) (nI ((x % 8))) (2 : Int32) (clk_ok ha) (tk_ok (by omega) (by omega)) (by decide)
  rw [hab] at hc
  refine co_callH (As := [.ref (q 0), .int (nI ((1 + (x % 60)))), .int (nI ((x % 8))), .int (2 : Int32)]) (rest := []) hE hC X hP hD hS hA hc cpH_ifPassed aw_621 ⟨Nat.le_of_ble_eq_true rfl, Nat.le_of_ble_eq_true rfl⟩ [0] (cs := [obC q qn qt qs qH qx cI cS ad o]) rfl (by decide) (fun u => [obC q qn qt qs qH qx cI cS ad u]) (fun _ => rfl) (fun _ => rfl) rfl hl.1 rfl (Nat.le_of_ble_eq_true rfl) dL_follows_64 ⟨Nat.le_of_ble_eq_true rfl, Nat.le_of_ble_eq_true rfl⟩ (st1 := fun _ => [.long (ifPA A (nI ((1 + (x % 60)))) (nI ((x % 8))) (2 : Int32))]) (fun _ => rfl) (fun u => [obC q qn qt qs qH qx cI cS ad u]) (fun _ => rfl) (fun o ho H locs hP hD hS => ?_)
  obtain ⟨hab, hg⟩ := ho
  refine lv_lstore (lv' := [(11, .long (ifPA A (nI ((1 + (x % 60)))) (nI ((x % 8))) (2 : Int32))), (9, .long (ifPA A (nI ((1 + (x % 60)))) (nI ((x % 8))) (1 : Int32))), (7, .long (ifPA A (nI ((1 + (x % 60)))) (nI ((x % 8))) (0 : Int32))), (6, .int (nI ((1 + (x % 60))))), (5, .int (nI ((b8 x)))), (4, .int (nI ((x % 8)))), (2, .long (nowV A)), (0, .ref (q 0)), (1, .int (nI x))]) hx hb dL_follows_67 hl (by decide) rfl (fun ls hl => ?_)
  refine lv_aload_n hx hb dL_follows_69 rfl (lv_at hl 7 rfl) ?_
  refine lv_iload hx hb dL_follows_70 (lv_at hl 5 rfl) ?_
  refine lv_iconst (v := 4) hx hb dL_follows_72 (by decide) ?_
  have hc := oz_clock l G cI cS cL ad mp q qn qt qs qH qx (o := o) hg (nI ((x % 8))) (4 : Int32) (clk_ok ha) (by decide)
  rw [hab] at hc
  refine co_callH (As := [.ref (q 0), .int (nI ((x % 8))), .int (4 : Int32)]) (rest := []) hE hC X hP hD hS hA hc cpH_clock aw_341 ⟨Nat.le_of_ble_eq_true rfl, Nat.le_of_ble_eq_true rfl⟩ [0] (cs := [obC q qn qt qs qH qx cI cS ad o]) rfl (by decide) (fun u => [obC q qn qt qs qH qx cI cS ad u]) (fun _ => rfl) (fun _ => rfl) rfl hl.1 rfl (Nat.le_of_ble_eq_true rfl) dL_follows_73 ⟨Nat.le_of_ble_eq_true rfl, Nat.le_of_ble_eq_true rfl⟩ (st1 := fun _ => [.long (clockA A (nI ((x % 8))) (4 : Int32))]) (fun _ => rfl) (fun u => [obC q qn qt qs qH qx cI cS ad u]) (fun _ => rfl) (fun o ho H locs hP hD hS => ?_)
  obtain ⟨hab, hg⟩ := ho
  refine lv_lstore (lv' := [(13, .long (clockA A (nI ((x % 8))) (4 : Int32))), (11, .long (ifPA A (nI ((1 + (x % 60)))) (nI ((x % 8))) (2 : Int32))), (9, .long (ifPA A (nI ((1 + (x % 60)))) (nI ((x % 8))) (1 : Int32))), (7, .long (ifPA A (nI ((1 + (x % 60)))) (nI ((x % 8))) (0 : Int32))), (6, .int (nI ((1 + (x % 60))))), (5, .int (nI ((b8 x)))), (4, .int (nI ((x % 8)))), (2, .long (nowV A)), (0, .ref (q 0)), (1, .int (nI x))]) hx hb dL_follows_76 hl (by decide) rfl (fun ls hl => ?_)
  refine lv_aload_n hx hb dL_follows_78 rfl (lv_at hl 8 rfl) ?_
  refine lv_iload hx hb dL_follows_79 (lv_at hl 6 rfl) ?_
  refine lv_iload hx hb dL_follows_81 (lv_at hl 5 rfl) ?_
  have hc := oz_lockedIn l G cI cS cL ad mp q qn qt qs qH qx (o := o) hg (nI ((x % 8))) (nI ((b8 x))) (par_ok ha hb8 hne)
  rw [hab] at hc
  refine co_callH (As := [.ref (q 0), .int (nI ((x % 8))), .int (nI ((b8 x)))]) (rest := []) hE hC X hP hD hS hA hc cpH_lockedIn aw_638 ⟨Nat.le_of_ble_eq_true rfl, Nat.le_of_ble_eq_true rfl⟩ [0] (cs := [obC q qn qt qs qH qx cI cS ad o]) rfl (by decide) (fun u => [obC q qn qt qs qH qx cI cS ad u]) (fun _ => rfl) (fun _ => rfl) rfl hl.1 rfl (Nat.le_of_ble_eq_true rfl) dL_follows_83 ⟨Nat.le_of_ble_eq_true rfl, Nat.le_of_ble_eq_true rfl⟩ (st1 := fun _ => [.long (lockA A (nI ((x % 8))) (nI ((b8 x))))]) (fun _ => rfl) (fun u => [obC q qn qt qs qH qx cI cS ad u]) (fun _ => rfl) (fun o ho H locs hP hD hS => ?_)
  obtain ⟨hab, hg⟩ := ho
  refine lv_lstore (lv' := [(15, .long (lockA A (nI ((x % 8))) (nI ((b8 x))))), (13, .long (clockA A (nI ((x % 8))) (4 : Int32))), (11, .long (ifPA A (nI ((1 + (x % 60)))) (nI ((x % 8))) (2 : Int32))), (9, .long (ifPA A (nI ((1 + (x % 60)))) (nI ((x % 8))) (1 : Int32))), (7, .long (ifPA A (nI ((1 + (x % 60)))) (nI ((x % 8))) (0 : Int32))), (6, .int (nI ((1 + (x % 60))))), (5, .int (nI ((b8 x)))), (4, .int (nI ((x % 8)))), (2, .long (nowV A)), (0, .ref (q 0)), (1, .int (nI x))]) hx hb dL_follows_86 hl (by decide) rfl (fun ls hl => ?_)
  refine lv_aload_n hx hb dL_follows_88 rfl (lv_at hl 9 rfl) ?_
  have hc := o5_nextStrike l G cI cS cL ad mp q qn qt qs qH qx (o := o) hg
  rw [hab] at hc
  refine co_callV (As := []) (rest := []) hE hC X hP hD hS hA hc cp_X5_nextStrike aw_683 ⟨Nat.le_of_ble_eq_true rfl, Nat.le_of_ble_eq_true rfl⟩ [0] (cs := [obC q qn qt qs qH qx cI cS ad o]) rfl (by decide) (fun u => [obC q qn qt qs qH qx cI cS ad u]) (fun _ => rfl) (fun _ => rfl) 3 rfl rfl (q0 := 0) rfl rfl hl.1 rfl (Nat.le_of_ble_eq_true rfl) dL_follows_89 ⟨Nat.le_of_ble_eq_true rfl, Nat.le_of_ble_eq_true rfl⟩ (st1 := fun _ => [.int (nextV A)]) (fun _ => rfl) (fun u => [obC q qn qt qs qH qx cI cS ad u]) (fun _ => rfl) (fun o ho H locs hP hD hS => ?_)
  obtain ⟨hab, hg⟩ := ho
  refine lv_istore (lv' := [(17, .int (nextV A)), (15, .long (lockA A (nI ((x % 8))) (nI ((b8 x))))), (13, .long (clockA A (nI ((x % 8))) (4 : Int32))), (11, .long (ifPA A (nI ((1 + (x % 60)))) (nI ((x % 8))) (2 : Int32))), (9, .long (ifPA A (nI ((1 + (x % 60)))) (nI ((x % 8))) (1 : Int32))), (7, .long (ifPA A (nI ((1 + (x % 60)))) (nI ((x % 8))) (0 : Int32))), (6, .int (nI ((1 + (x % 60))))), (5, .int (nI ((b8 x)))), (4, .int (nI ((x % 8)))), (2, .long (nowV A)), (0, .ref (q 0)), (1, .int (nI x))]) hx hb dL_follows_92 hl (by decide) rfl (fun ls hl => ?_)
  refine lv_aload_n hx hb dL_follows_94 rfl (lv_at hl 10 rfl) ?_
  refine lv_iconst (v := 1) hx hb dL_follows_95 (by decide) ?_
  have hc := oz_count l G cI cS cL ad mp q qn qt qs qH qx (o := o) hg (by rw [hab]; exact hB0.2.2.2.ns) (1 : Int32) (by decide)
  rw [hab] at hc
  refine co_callH (As := [.ref (q 0), .int (1 : Int32)]) (rest := []) hE hC X hP hD hS hA hc cpH_count aw_204 ⟨Nat.le_of_ble_eq_true rfl, Nat.le_of_ble_eq_true rfl⟩ [0] (cs := [obC q qn qt qs qH qx cI cS ad o]) rfl (by decide) (fun u => [obC q qn qt qs qH qx cI cS ad u]) (fun _ => rfl) (fun _ => rfl) rfl hl.1 rfl (Nat.le_of_ble_eq_true rfl) dL_follows_96 ⟨Nat.le_of_ble_eq_true rfl, Nat.le_of_ble_eq_true rfl⟩ (st1 := fun _ => [.long (countA A (1 : Int32))]) (fun _ => rfl) (fun u => [obC q qn qt qs qH qx cI cS ad u]) (fun _ => rfl) (fun o ho H locs hP hD hS => ?_)
  obtain ⟨hab, hg⟩ := ho
  refine lv_lstore (lv' := [(18, .long (countA A (1 : Int32))), (17, .int (nextV A)), (15, .long (lockA A (nI ((x % 8))) (nI ((b8 x))))), (13, .long (clockA A (nI ((x % 8))) (4 : Int32))), (11, .long (ifPA A (nI ((1 + (x % 60)))) (nI ((x % 8))) (2 : Int32))), (9, .long (ifPA A (nI ((1 + (x % 60)))) (nI ((x % 8))) (1 : Int32))), (7, .long (ifPA A (nI ((1 + (x % 60)))) (nI ((x % 8))) (0 : Int32))), (6, .int (nI ((1 + (x % 60))))), (5, .int (nI ((b8 x)))), (4, .int (nI ((x % 8)))), (2, .long (nowV A)), (0, .ref (q 0)), (1, .int (nI x))]) hx hb dL_follows_99 hl (by decide) rfl (fun ls hl => ?_)
  refine lv_aload_n hx hb dL_follows_101 rfl (lv_at hl 11 rfl) ?_
  have hc := o_now l G cI cS cL ad mp q qn qt qs qH qx (o := o) hg (by rw [hab]; exact hB0.2.2.2.ns)
  rw [hab] at hc
  refine co_callS (As := [.ref (q 0)]) (rest := []) hE hC X hP hD hS hA hc cpS_now aw_199 ⟨Nat.le_of_ble_eq_true rfl, Nat.le_of_ble_eq_true rfl⟩ [0] (cs := [obC q qn qt qs qH qx cI cS ad o]) rfl (by decide) (fun u => [obC q qn qt qs qH qx cI cS ad u]) (fun _ => rfl) (fun _ => rfl) rfl hl.1 rfl (Nat.le_of_ble_eq_true rfl) dL_follows_102 ⟨Nat.le_of_ble_eq_true rfl, Nat.le_of_ble_eq_true rfl⟩ (st1 := fun _ => [.long (nowV A)]) (fun _ => rfl) (fun u => [obC q qn qt qs qH qx cI cS ad u]) (fun _ => rfl) (fun o ho H locs hP hD hS => ?_)
  obtain ⟨hab, hg⟩ := ho
  refine lv_lload_n hx hb dL_follows_105 rfl (lv_at hl 10 rfl) ?_
  refine W.lcmp hx hb dL_follows_106 ?_
  refine iv_ifne hx hb 193 dL_follows_107 (by decide) (fun c => absurd (f_now hB0) c) (fun _ => ?_)
  refine lv_aload_n hx hb dL_follows_110 rfl (lv_at hl 11 rfl) ?_
  refine lv_iload hx hb dL_follows_111 (lv_at hl 7 rfl) ?_
  have hc := oz_pass l G cI cS cL ad mp q qn qt qs qH qx (o := o) hg (nI ((1 + (x % 60)))) (tk_ok (n := (1 + (x % 60))) (by omega) (by omega))
  rw [hab] at hc
  rw [show passA A (nI ((1 + (x % 60)))) = ((tkc (1 + (x % 60)) A.1).toInt64, (newA A (tks (1 + (x % 60)) A.1))) from pass_v (n := (1 + (x % 60))) (by omega) (by omega)] at hc
  refine co_callH (As := [.ref (q 0), .int (nI ((1 + (x % 60))))]) (rest := []) hE hC X hP hD hS hA hc cpH_pass aw_465 ⟨Nat.le_of_ble_eq_true rfl, Nat.le_of_ble_eq_true rfl⟩ [0] (cs := [obC q qn qt qs qH qx cI cS ad o]) rfl (by decide) (fun u => [obC q qn qt qs qH qx cI cS ad u]) (fun _ => rfl) (fun _ => rfl) rfl hl.1 rfl (Nat.le_of_ble_eq_true rfl) dL_follows_113 ⟨Nat.le_of_ble_eq_true rfl, Nat.le_of_ble_eq_true rfl⟩ (st1 := fun _ => [.long ((tkc (1 + (x % 60)) A.1).toInt64)]) (fun _ => rfl) (fun u => [obC q qn qt qs qH qx cI cS ad u]) (fun _ => rfl) (fun o ho H locs hP hD hS => ?_)
  obtain ⟨hab, hg⟩ := ho
  have hab : aob o = (newA A (tks (1 + (x % 60)) A.1)) := hab
  refine lv_aload_n hx hb dL_follows_116 rfl (lv_at hl 11 rfl) ?_
  refine lv_iconst (v := 1) hx hb dL_follows_117 (by decide) ?_
  have hc := oz_count l G cI cS cL ad mp q qn qt qs qH qx (o := o) hg (by rw [hab]; exact tks_nt _ hI.ns) (1 : Int32) (by decide)
  rw [hab] at hc
  refine co_callH (As := [.ref (q 0), .int (1 : Int32)]) (rest := [.long ((tkc (1 + (x % 60)) A.1).toInt64)]) hE hC X hP hD hS hA hc cpH_count aw_204 ⟨Nat.le_of_ble_eq_true rfl, Nat.le_of_ble_eq_true rfl⟩ [0] (cs := [obC q qn qt qs qH qx cI cS ad o]) rfl (by decide) (fun u => [obC q qn qt qs qH qx cI cS ad u]) (fun _ => rfl) (fun _ => rfl) rfl hl.1 rfl (Nat.le_of_ble_eq_true rfl) dL_follows_118 ⟨Nat.le_of_ble_eq_true rfl, Nat.le_of_ble_eq_true rfl⟩ (st1 := fun _ => [.long (countA (newA A (tks (1 + (x % 60)) A.1)) (1 : Int32)), .long ((tkc (1 + (x % 60)) A.1).toInt64)]) (fun _ => rfl) (fun u => [obC q qn qt qs qH qx cI cS ad u]) (fun _ => rfl) (fun o ho H locs hP hD hS => ?_)
  obtain ⟨hab, hg⟩ := ho
  refine lv_lload hx hb dL_follows_121 (lv_at hl 0 rfl) ?_
  refine lv_lsub hx hb dL_follows_123 ?_
  refine W.lcmp hx hb dL_follows_124 ?_
  refine iv_ifne hx hb 193 dL_follows_125 (by decide) (fun c => absurd (f_cnt (by omega) hI (by omega)) c) (fun _ => ?_)
  refine lv_aload_n hx hb dL_follows_128 rfl (lv_at hl 11 rfl) ?_
  refine lv_iload hx hb dL_follows_129 (lv_at hl 9 rfl) ?_
  refine lv_iconst (v := 2) hx hb dL_follows_131 (by decide) ?_
  have hc := oz_clock l G cI cS cL ad mp q qn qt qs qH qx (o := o) hg (nI ((x % 8))) (2 : Int32) (clk_ok ha) (by decide)
  rw [hab] at hc
  refine co_callH (As := [.ref (q 0), .int (nI ((x % 8))), .int (2 : Int32)]) (rest := []) hE hC X hP hD hS hA hc cpH_clock aw_341 ⟨Nat.le_of_ble_eq_true rfl, Nat.le_of_ble_eq_true rfl⟩ [0] (cs := [obC q qn qt qs qH qx cI cS ad o]) rfl (by decide) (fun u => [obC q qn qt qs qH qx cI cS ad u]) (fun _ => rfl) (fun _ => rfl) rfl hl.1 rfl (Nat.le_of_ble_eq_true rfl) dL_follows_132 ⟨Nat.le_of_ble_eq_true rfl, Nat.le_of_ble_eq_true rfl⟩ (st1 := fun _ => [.long (clockA (newA A (tks (1 + (x % 60)) A.1)) (nI ((x % 8))) (2 : Int32))]) (fun _ => rfl) (fun u => [obC q qn qt qs qH qx cI cS ad u]) (fun _ => rfl) (fun o ho H locs hP hD hS => ?_)
  obtain ⟨hab, hg⟩ := ho
  refine lv_lload hx hb dL_follows_135 (lv_at hl 6 rfl) ?_
  refine W.lcmp hx hb dL_follows_137 ?_
  refine iv_ifne hx hb 193 dL_follows_138 (by decide) (fun c => absurd (f_ph (by omega) (by omega) ha) c) (fun _ => ?_)
  refine lv_aload_n hx hb dL_follows_141 rfl (lv_at hl 11 rfl) ?_
  refine lv_iload hx hb dL_follows_142 (lv_at hl 9 rfl) ?_
  refine lv_iconst (v := 4) hx hb dL_follows_144 (by decide) ?_
  have hc := oz_clock l G cI cS cL ad mp q qn qt qs qH qx (o := o) hg (nI ((x % 8))) (4 : Int32) (clk_ok ha) (by decide)
  rw [hab] at hc
  refine co_callH (As := [.ref (q 0), .int (nI ((x % 8))), .int (4 : Int32)]) (rest := []) hE hC X hP hD hS hA hc cpH_clock aw_341 ⟨Nat.le_of_ble_eq_true rfl, Nat.le_of_ble_eq_true rfl⟩ [0] (cs := [obC q qn qt qs qH qx cI cS ad o]) rfl (by decide) (fun u => [obC q qn qt qs qH qx cI cS ad u]) (fun _ => rfl) (fun _ => rfl) rfl hl.1 rfl (Nat.le_of_ble_eq_true rfl) dL_follows_145 ⟨Nat.le_of_ble_eq_true rfl, Nat.le_of_ble_eq_true rfl⟩ (st1 := fun _ => [.long (clockA (newA A (tks (1 + (x % 60)) A.1)) (nI ((x % 8))) (4 : Int32))]) (fun _ => rfl) (fun u => [obC q qn qt qs qH qx cI cS ad u]) (fun _ => rfl) (fun o ho H locs hP hD hS => ?_)
  obtain ⟨hab, hg⟩ := ho
  refine lv_lload hx hb dL_follows_148 (lv_at hl 3 rfl) ?_
  refine lv_lload hx hb dL_follows_150 (lv_at hl 5 rfl) ?_
  refine lv_ladd hx hb dL_follows_152 ?_
  refine W.lcmp hx hb dL_follows_153 ?_
  refine iv_ifne hx hb 193 dL_follows_154 (by decide) (fun c => absurd (f_st (by omega) hI (by omega) (by omega) ha) c) (fun _ => ?_)
  refine lv_aload_n hx hb dL_follows_157 rfl (lv_at hl 11 rfl) ?_
  refine lv_iload hx hb dL_follows_158 (lv_at hl 9 rfl) ?_
  refine lv_bipush (v := 10) hx hb dL_follows_160 (by decide) ?_
  have hc := oz_clock l G cI cS cL ad mp q qn qt qs qH qx (o := o) hg (nI ((x % 8))) (10 : Int32) (clk_ok ha) (by decide)
  rw [hab] at hc
  refine co_callH (As := [.ref (q 0), .int (nI ((x % 8))), .int (10 : Int32)]) (rest := []) hE hC X hP hD hS hA hc cpH_clock aw_341 ⟨Nat.le_of_ble_eq_true rfl, Nat.le_of_ble_eq_true rfl⟩ [0] (cs := [obC q qn qt qs qH qx cI cS ad o]) rfl (by decide) (fun u => [obC q qn qt qs qH qx cI cS ad u]) (fun _ => rfl) (fun _ => rfl) rfl hl.1 rfl (Nat.le_of_ble_eq_true rfl) dL_follows_162 ⟨Nat.le_of_ble_eq_true rfl, Nat.le_of_ble_eq_true rfl⟩ (st1 := fun _ => [.long (clockA (newA A (tks (1 + (x % 60)) A.1)) (nI ((x % 8))) (10 : Int32))]) (fun _ => rfl) (fun u => [obC q qn qt qs qH qx cI cS ad u]) (fun _ => rfl) (fun o ho H locs hP hD hS => ?_)
  obtain ⟨hab, hg⟩ := ho
  refine lv_lload hx hb dL_follows_165 (lv_at hl 4 rfl) ?_
  refine W.lcmp hx hb dL_follows_167 ?_
  refine iv_ifne hx hb 193 dL_follows_168 (by decide) (fun c => absurd (f_gm (by omega) (by omega) ha) c) (fun _ => ?_)
  refine lv_aload_n hx hb dL_follows_171 rfl (lv_at hl 11 rfl) ?_
  have hc := oz_undo l G cI cS cL ad mp q qn qt qs qH qx (o := o) hg (by rw [osz_of hab]; exact push_pos _ _)
  rw [hab] at hc
  rw [undo_new (A := A) hB0.2.2.2.2.2.2.1 (tks (1 + (x % 60)) A.1)] at hc
  refine co_callH (As := [.ref (q 0)]) (rest := []) hE hC X hP hD hS hA hc cpH_undo aw_687 ⟨Nat.le_of_ble_eq_true rfl, Nat.le_of_ble_eq_true rfl⟩ [0] (cs := [obC q qn qt qs qH qx cI cS ad o]) rfl (by decide) (fun u => [obC q qn qt qs qH qx cI cS ad u]) (fun _ => rfl) (fun _ => rfl) rfl hl.1 rfl (Nat.le_of_ble_eq_true rfl) dL_follows_172 ⟨Nat.le_of_ble_eq_true rfl, Nat.le_of_ble_eq_true rfl⟩ (st1 := fun _ => [.long ((nI (pushL A.2.2.1 A.1).dropLast.length).toInt64)]) (fun _ => rfl) (fun u => [obC q qn qt qs qH qx cI cS ad u]) (fun _ => rfl) (fun o ho H locs hP hD hS => ?_)
  obtain ⟨hab, hg⟩ := ho
  have bk1 := bk_back hB0
  obtain ⟨B1, eB1⟩ : ∃ X : Ab, (A.1, A.2.1, (pushL A.2.2.1 A.1).dropLast, A.2.2.2) = X := ⟨_, rfl⟩
  have hab : aob o = B1 := hab.trans eB1
  rw [eB1] at bk1
  refine lv_lconst (v := 0) hx hb dL_follows_175 (by decide) ?_
  refine W.lcmp hx hb dL_follows_176 ?_
  refine lv_if_lt (tgt := 193) hx hb dL_follows_177 (by decide) (fun c => absurd c (undo_ge hB0.2.2.2)) (fun _ => ?_)
  refine lv_aload_n hx hb dL_follows_180 rfl (lv_at hl 11 rfl) ?_
  have hc := o_now l G cI cS cL ad mp q qn qt qs qH qx (o := o) hg (by rw [hab]; exact bk1.2.2.2.ns)
  rw [hab] at hc
  refine co_callS (As := [.ref (q 0)]) (rest := []) hE hC X hP hD hS hA hc cpS_now aw_199 ⟨Nat.le_of_ble_eq_true rfl, Nat.le_of_ble_eq_true rfl⟩ [0] (cs := [obC q qn qt qs qH qx cI cS ad o]) rfl (by decide) (fun u => [obC q qn qt qs qH qx cI cS ad u]) (fun _ => rfl) (fun _ => rfl) rfl hl.1 rfl (Nat.le_of_ble_eq_true rfl) dL_follows_181 ⟨Nat.le_of_ble_eq_true rfl, Nat.le_of_ble_eq_true rfl⟩ (st1 := fun _ => [.long (nowV B1)]) (fun _ => rfl) (fun u => [obC q qn qt qs qH qx cI cS ad u]) (fun _ => rfl) (fun o ho H locs hP hD hS => ?_)
  obtain ⟨hab, hg⟩ := ho
  refine lv_lload_n hx hb dL_follows_184 rfl (lv_at hl 10 rfl) ?_
  refine W.lcmp hx hb dL_follows_185 ?_
  refine iv_ifne hx hb 193 dL_follows_186 (by decide) (fun c => absurd (f_now bk1) c) (fun _ => ?_)
  refine lv_iconst (v := 1) hx hb dL_follows_189 (by decide) ?_
  refine lv_goto (tgt := 194) hx hb dL_follows_190 (by decide) ?_
  refine lv_istore (lv' := [(20, .int (1 : Int32)), (18, .long (countA A (1 : Int32))), (17, .int (nextV A)), (15, .long (lockA A (nI ((x % 8))) (nI ((b8 x))))), (13, .long (clockA A (nI ((x % 8))) (4 : Int32))), (11, .long (ifPA A (nI ((1 + (x % 60)))) (nI ((x % 8))) (2 : Int32))), (9, .long (ifPA A (nI ((1 + (x % 60)))) (nI ((x % 8))) (1 : Int32))), (7, .long (ifPA A (nI ((1 + (x % 60)))) (nI ((x % 8))) (0 : Int32))), (6, .int (nI ((1 + (x % 60))))), (5, .int (nI ((b8 x)))), (4, .int (nI ((x % 8)))), (2, .long (nowV A)), (0, .ref (q 0)), (1, .int (nI x))]) hx hb dL_follows_194 hl (by decide) rfl (fun ls hl => ?_)
  have m446 : ∀ (B : Ab) (hB : BK bb A B) (o : Ob) (hab : aob o = B) (hg : Gd o) (H : Heap) (locs : List Loc) (ls : Array Slot), va_P G classes [obC q qn qt qs qH qx cI cS ad o].flatten H → va_D A0 [obC q qn qt qs qH qx cI cS ad o].flatten → va_S A0 s.heap H locs → lv_has ls 23 [(0, .ref (q 0)), (1, .int (nI x)), (2, .long (nowV A)), (4, .int (nI ((x % 8)))), (20, .int (1 : Int32))] → W p l e ({ frames := 8, cells := 0, slots := 0, locals := 183 } : Room) s m args below meth c H locs 0 0 QQ (F0 m 446 ls []) := by
    intro B hB o hab hg H locs ls hP hD hS hl
    refine lv_aload_n hx hb dL_follows_446 rfl (lv_at hl 0 rfl) ?_
    refine lv_iload hx hb dL_follows_447 (lv_at hl 3 rfl) ?_
    refine lv_iconst (v := 2) hx hb dL_follows_449 (by decide) ?_
    have hc := oz_clock l G cI cS cL ad mp q qn qt qs qH qx (o := o) hg (nI ((x % 8))) (2 : Int32) (clk_ok ha) (by decide)
    rw [hab] at hc
    refine co_callH (As := [.ref (q 0), .int (nI ((x % 8))), .int (2 : Int32)]) (rest := []) hE hC X hP hD hS hA hc cpH_clock aw_341 ⟨Nat.le_of_ble_eq_true rfl, Nat.le_of_ble_eq_true rfl⟩ [0] (cs := [obC q qn qt qs qH qx cI cS ad o]) rfl (by decide) (fun u => [obC q qn qt qs qH qx cI cS ad u]) (fun _ => rfl) (fun _ => rfl) rfl hl.1 rfl (Nat.le_of_ble_eq_true rfl) dL_follows_450 ⟨Nat.le_of_ble_eq_true rfl, Nat.le_of_ble_eq_true rfl⟩ (st1 := fun _ => [.long (clockA B (nI ((x % 8))) (2 : Int32))]) (fun _ => rfl) (fun u => [obC q qn qt qs qH qx cI cS ad u]) (fun _ => rfl) (fun o ho H locs hP hD hS => ?_)
    obtain ⟨hab, hg⟩ := ho
    refine lv_lstore (lv' := [(21, .long (clockA B (nI ((x % 8))) (2 : Int32))), (0, .ref (q 0)), (1, .int (nI x)), (2, .long (nowV A)), (4, .int (nI ((x % 8)))), (20, .int (1 : Int32))]) hx hb dL_follows_453 hl (by decide) rfl (fun ls hl => ?_)
    refine lv_iload hx hb dL_follows_455 (lv_at hl 5 rfl) ?_
    refine lv_if_eq (tgt := 519) hx hb dL_follows_457 (by decide) (fun c => absurd c (by decide)) (fun _ => ?_)
    refine lv_aload_n hx hb dL_follows_460 rfl (lv_at hl 1 rfl) ?_
    refine lv_iload hx hb dL_follows_461 (lv_at hl 4 rfl) ?_
    refine lv_iconst (v := 1) hx hb dL_follows_463 (by decide) ?_
    refine lv_iload_n hx hb dL_follows_464 rfl (lv_at hl 2 rfl) ?_
    refine lv_sipush (v := 499) hx hb dL_follows_465 (by decide) ?_
    refine nv_irem hx hb x 499 (by omega) (by omega) (by omega) dL_follows_468 ?_
    refine nv_iadd hx hb 1 (x % 499) dL_follows_469 ?_
    have hc := oz_kick l G cI cS cL ad mp q qn qt qs qH qx (o := o) hg (nI ((x % 8))) (nI ((1 + (x % 499)))) (clk_ok ha) (kp_ok (m := x % 499) (by omega))
    rw [hab] at hc
    rw [show kickA B (nI (x % 8)) (nI ((1 + (x % 499)))) = ((zph (kkZ B.1 (x % 8) (nI (1 + (x % 499)))) (x % 8)).toInt64, (newA B (kkZ B.1 (x % 8) (nI (1 + (x % 499)))))) from kick_v ha (kp_ok (m := x % 499) (by omega)) _] at hc
    refine co_callH (As := [.ref (q 0), .int (nI ((x % 8))), .int (nI ((1 + (x % 499))))]) (rest := []) hE hC X hP hD hS hA hc cpH_kick aw_515 ⟨Nat.le_of_ble_eq_true rfl, Nat.le_of_ble_eq_true rfl⟩ [0] (cs := [obC q qn qt qs qH qx cI cS ad o]) rfl (by decide) (fun u => [obC q qn qt qs qH qx cI cS ad u]) (fun _ => rfl) (fun _ => rfl) rfl hl.1 rfl (Nat.le_of_ble_eq_true rfl) dL_follows_470 ⟨Nat.le_of_ble_eq_true rfl, Nat.le_of_ble_eq_true rfl⟩ (st1 := fun _ => [.long ((zph (kkZ B.1 (x % 8) (nI (1 + (x % 499)))) (x % 8)).toInt64)]) (fun _ => rfl) (fun u => [obC q qn qt qs qH qx cI cS ad u]) (fun _ => rfl) (fun o ho H locs hP hD hS => ?_)
    obtain ⟨hab, hg⟩ := ho
    have hab : aob o = (newA B (kkZ B.1 (x % 8) (nI (1 + (x % 499))))) := hab
    refine lv_lconst (v := 0) hx hb dL_follows_473 (by decide) ?_
    refine W.lcmp hx hb dL_follows_474 ?_
    refine lv_if_lt (tgt := 519) hx hb dL_follows_475 (by decide) (fun c => absurd c (kick_ge (by omega) hB.2.2.2 ha (by omega))) (fun _ => ?_)
    refine lv_aload_n hx hb dL_follows_478 rfl (lv_at hl 1 rfl) ?_
    refine lv_iload hx hb dL_follows_479 (lv_at hl 4 rfl) ?_
    refine lv_iconst (v := -1) hx hb dL_follows_481 (by decide) ?_
    refine lv_iload_n hx hb dL_follows_482 rfl (lv_at hl 2 rfl) ?_
    refine lv_sipush (v := 499) hx hb dL_follows_483 (by decide) ?_
    refine nv_irem hx hb x 499 (by omega) (by omega) (by omega) dL_follows_486 ?_
    refine lv_isub hx hb dL_follows_487 ?_
    have hc := oz_kick l G cI cS cL ad mp q qn qt qs qH qx (o := o) hg (nI ((x % 8))) ((-1 : Int32) - (nI ((x % 499)))) (clk_ok ha) (kn_ok (m := x % 499) (by omega))
    rw [hab] at hc
    rw [show kickA (newA B (kkZ B.1 (x % 8) (nI (1 + (x % 499))))) (nI (x % 8)) ((-1 : Int32) - (nI ((x % 499)))) = ((zph (kkZ (kkZ B.1 (x % 8) (nI (1 + (x % 499)))) (x % 8) ((-1 : Int32) - (nI (x % 499)))) (x % 8)).toInt64, (newA (newA B (kkZ B.1 (x % 8) (nI (1 + (x % 499))))) (kkZ (kkZ B.1 (x % 8) (nI (1 + (x % 499)))) (x % 8) ((-1 : Int32) - (nI (x % 499)))))) from kick_v ha (kn_ok (m := x % 499) (by omega)) _] at hc
    refine co_callH (As := [.ref (q 0), .int (nI ((x % 8))), .int ((-1 : Int32) - (nI ((x % 499))))]) (rest := []) hE hC X hP hD hS hA hc cpH_kick aw_515 ⟨Nat.le_of_ble_eq_true rfl, Nat.le_of_ble_eq_true rfl⟩ [0] (cs := [obC q qn qt qs qH qx cI cS ad o]) rfl (by decide) (fun u => [obC q qn qt qs qH qx cI cS ad u]) (fun _ => rfl) (fun _ => rfl) rfl hl.1 rfl (Nat.le_of_ble_eq_true rfl) dL_follows_488 ⟨Nat.le_of_ble_eq_true rfl, Nat.le_of_ble_eq_true rfl⟩ (st1 := fun _ => [.long ((zph (kkZ (kkZ B.1 (x % 8) (nI (1 + (x % 499)))) (x % 8) ((-1 : Int32) - (nI (x % 499)))) (x % 8)).toInt64)]) (fun _ => rfl) (fun u => [obC q qn qt qs qH qx cI cS ad u]) (fun _ => rfl) (fun o ho H locs hP hD hS => ?_)
    obtain ⟨hab, hg⟩ := ho
    have hab : aob o = (newA (newA B (kkZ B.1 (x % 8) (nI (1 + (x % 499))))) (kkZ (kkZ B.1 (x % 8) (nI (1 + (x % 499)))) (x % 8) ((-1 : Int32) - (nI (x % 499))))) := hab
    refine lv_lload hx hb dL_follows_491 (lv_at hl 0 rfl) ?_
    refine W.lcmp hx hb dL_follows_493 ?_
    refine iv_ifne hx hb 519 dL_follows_494 (by decide) (fun c => absurd (kick_bk hB.2.2.2 ha (by omega)) c) (fun _ => ?_)
    refine lv_aload_n hx hb dL_follows_497 rfl (lv_at hl 1 rfl) ?_
    obtain ⟨h1, h2, u1, u2, u3, u4, u5, u6⟩ := undo_two (B := B) hB.2.2.2.2.2.2.1 (kkZ B.1 (x % 8) (nI (1 + (x % 499)))) (kkZ (kkZ B.1 (x % 8) (nI (1 + (x % 499)))) (x % 8) ((-1 : Int32) - (nI (x % 499))))
    have hc := oz_undo l G cI cS cL ad mp q qn qt qs qH qx (o := o) hg (by rw [osz_of hab]; exact push_pos _ _)
    rw [hab] at hc
    rw [u1] at hc
    refine co_callH (As := [.ref (q 0)]) (rest := []) hE hC X hP hD hS hA hc cpH_undo aw_687 ⟨Nat.le_of_ble_eq_true rfl, Nat.le_of_ble_eq_true rfl⟩ [0] (cs := [obC q qn qt qs qH qx cI cS ad o]) rfl (by decide) (fun u => [obC q qn qt qs qH qx cI cS ad u]) (fun _ => rfl) (fun _ => rfl) rfl hl.1 rfl (Nat.le_of_ble_eq_true rfl) dL_follows_498 ⟨Nat.le_of_ble_eq_true rfl, Nat.le_of_ble_eq_true rfl⟩ (st1 := fun _ => [.long ((nI h1.length).toInt64)]) (fun _ => rfl) (fun u => [obC q qn qt qs qH qx cI cS ad u]) (fun _ => rfl) (fun o ho H locs hP hD hS => ?_)
    obtain ⟨hab, hg⟩ := ho
    have hab : aob o = ((kkZ B.1 (x % 8) (nI (1 + (x % 499)))), B.2.1, h1, B.2.2.2) := hab
    refine lv_lconst (v := 0) hx hb dL_follows_501 (by decide) ?_
    refine W.lcmp hx hb dL_follows_502 ?_
    refine lv_if_lt (tgt := 519) hx hb dL_follows_503 (by decide) (fun c => absurd c (nI_ge0 (by omega))) (fun _ => ?_)
    refine lv_aload_n hx hb dL_follows_506 rfl (lv_at hl 1 rfl) ?_
    have hc := oz_undo l G cI cS cL ad mp q qn qt qs qH qx (o := o) hg (by rw [osz_of hab]; exact u2)
    rw [hab] at hc
    rw [u4] at hc
    refine co_callH (As := [.ref (q 0)]) (rest := []) hE hC X hP hD hS hA hc cpH_undo aw_687 ⟨Nat.le_of_ble_eq_true rfl, Nat.le_of_ble_eq_true rfl⟩ [0] (cs := [obC q qn qt qs qH qx cI cS ad o]) rfl (by decide) (fun u => [obC q qn qt qs qH qx cI cS ad u]) (fun _ => rfl) (fun _ => rfl) rfl hl.1 rfl (Nat.le_of_ble_eq_true rfl) dL_follows_507 ⟨Nat.le_of_ble_eq_true rfl, Nat.le_of_ble_eq_true rfl⟩ (st1 := fun _ => [.long ((nI h2.length).toInt64)]) (fun _ => rfl) (fun u => [obC q qn qt qs qH qx cI cS ad u]) (fun _ => rfl) (fun o ho H locs hP hD hS => ?_)
    obtain ⟨hab, hg⟩ := ho
    have bk2 : BK bb A (B.1, B.2.1, h2, B.2.2.2) := ⟨hB.1, hB.2.1, hB.2.2.1, hB.2.2.2.1, hB.2.2.2.2.1, fun y hy => hB.2.2.2.2.2.1 y (u6 y hy), u5, hB.2.2.2.2.2.2.2⟩
    obtain ⟨B2, eB2⟩ : ∃ X : Ab, (B.1, B.2.1, h2, B.2.2.2) = X := ⟨_, rfl⟩
    have hab : aob o = B2 := hab.trans eB2
    rw [eB2] at bk2
    refine lv_lconst (v := 0) hx hb dL_follows_510 (by decide) ?_
    refine W.lcmp hx hb dL_follows_511 ?_
    refine lv_if_lt (tgt := 519) hx hb dL_follows_512 (by decide) (fun c => absurd c (nI_ge0 (by omega))) (fun _ => ?_)
    refine lv_iconst (v := 1) hx hb dL_follows_515 (by decide) ?_
    refine lv_goto (tgt := 520) hx hb dL_follows_516 (by decide) ?_
    refine lv_istore (lv' := [(20, .int (1 : Int32)), (21, .long (clockA B (nI ((x % 8))) (2 : Int32))), (0, .ref (q 0)), (1, .int (nI x)), (2, .long (nowV A)), (4, .int (nI ((x % 8))))]) hx hb dL_follows_520 hl (by decide) rfl (fun ls hl => ?_)
    refine lv_iload hx hb dL_follows_522 (lv_at hl 0 rfl) ?_
    refine lv_if_eq (tgt := 569) hx hb dL_follows_524 (by decide) (fun c => absurd c (by decide)) (fun _ => ?_)
    refine lv_aload_n hx hb dL_follows_527 rfl (lv_at hl 2 rfl) ?_
    refine lv_iload_n hx hb dL_follows_528 rfl (lv_at hl 3 rfl) ?_
    refine lv_iconst (v := 3) hx hb dL_follows_529 (by decide) ?_
    refine nv_irem hx hb x 3 (by omega) (by omega) (by omega) dL_follows_530 ?_
    have hc := oz_bestGive l G cI cS cL ad mp q qn qt qs qH qx (o := o) hg (by rw [hab]; exact bk2.2.2.2.ns) (nI ((x % 3))) (bm_ok (by omega))
    rw [hab] at hc
    refine co_callH (As := [.ref (q 0), .int (nI ((x % 3)))]) (rest := []) hE hC X hP hD hS hA hc cpH_bestGive aw_651 ⟨Nat.le_of_ble_eq_true rfl, Nat.le_of_ble_eq_true rfl⟩ [0] (cs := [obC q qn qt qs qH qx cI cS ad o]) rfl (by decide) (fun u => [obC q qn qt qs qH qx cI cS ad u]) (fun _ => rfl) (fun _ => rfl) rfl hl.1 rfl (Nat.le_of_ble_eq_true rfl) dL_follows_531 ⟨Nat.le_of_ble_eq_true rfl, Nat.le_of_ble_eq_true rfl⟩ (st1 := fun _ => [.long (bestA B2 (nI ((x % 3))))]) (fun _ => rfl) (fun u => [obC q qn qt qs qH qx cI cS ad u]) (fun _ => rfl) (fun o ho H locs hP hD hS => ?_)
    obtain ⟨hab, hg⟩ := ho
    refine lv_lconst (v := 0) hx hb dL_follows_534 (by decide) ?_
    refine lv_ldc2 hx hb hown (hw _ aw_705) dL_follows_535 ?_
    refine ct_callS (As := [.long (bestA B2 (nI ((x % 3)))), .long (0 : Int64), .long (20 : Int64)]) (rest := []) X hP hD hS hA (k_L_in l G cI cS cL (bestA B2 (nI ((x % 3)))) (0 : Int64) (20 : Int64)) cpS_in aw_667 ⟨Nat.le_of_ble_eq_true rfl, Nat.le_of_ble_eq_true rfl⟩ [] (cs := []) rfl (by decide) (cs' := []) rfl rfl rfl hl.1 rfl (Nat.le_of_ble_eq_true rfl) dL_follows_538 ⟨Nat.le_of_ble_eq_true rfl, Nat.le_of_ble_eq_true rfl⟩ rfl (bs' := [obC q qn qt qs qH qx cI cS ad o]) rfl (fun H locs hP hD hS => ?_)
    refine lv_if_eq (tgt := 569) hx hb dL_follows_541 (by decide) (fun c => absurd c (fun q => by rw [best_in (by omega)] at q; exact absurd q (by decide))) (fun _ => ?_)
    refine lv_aload_n hx hb dL_follows_544 rfl (lv_at hl 2 rfl) ?_
    have hc := o_now l G cI cS cL ad mp q qn qt qs qH qx (o := o) hg (by rw [hab]; exact bk2.2.2.2.ns)
    rw [hab] at hc
    refine co_callS (As := [.ref (q 0)]) (rest := []) hE hC X hP hD hS hA hc cpS_now aw_199 ⟨Nat.le_of_ble_eq_true rfl, Nat.le_of_ble_eq_true rfl⟩ [0] (cs := [obC q qn qt qs qH qx cI cS ad o]) rfl (by decide) (fun u => [obC q qn qt qs qH qx cI cS ad u]) (fun _ => rfl) (fun _ => rfl) rfl hl.1 rfl (Nat.le_of_ble_eq_true rfl) dL_follows_545 ⟨Nat.le_of_ble_eq_true rfl, Nat.le_of_ble_eq_true rfl⟩ (st1 := fun _ => [.long (nowV B2)]) (fun _ => rfl) (fun u => [obC q qn qt qs qH qx cI cS ad u]) (fun _ => rfl) (fun o ho H locs hP hD hS => ?_)
    obtain ⟨hab, hg⟩ := ho
    refine lv_lload_n hx hb dL_follows_548 rfl (lv_at hl 4 rfl) ?_
    refine W.lcmp hx hb dL_follows_549 ?_
    refine iv_ifne hx hb 569 dL_follows_550 (by decide) (fun c => absurd (f_now bk2) c) (fun _ => ?_)
    refine lv_aload_n hx hb dL_follows_553 rfl (lv_at hl 2 rfl) ?_
    have hc := o5_digest l G cI cS cL ad mp q qn qt qs qH qx (o := o) hg (by rw [hab]; exact bk2.2.2.2.ns) (by rw [hab]; exact fun k hk => (bk2.2.2.2.1.2.2.1 k hk).1)
    rw [hab] at hc
    refine co_callV (As := []) (rest := []) hE hC X hP hD hS hA hc cp_X5_digest aw_706 ⟨Nat.le_of_ble_eq_true rfl, Nat.le_of_ble_eq_true rfl⟩ [0] (cs := [obC q qn qt qs qH qx cI cS ad o]) rfl (by decide) (fun u => [obC q qn qt qs qH qx cI cS ad u]) (fun _ => rfl) (fun _ => rfl) 3 rfl rfl (q0 := 0) rfl rfl hl.1 rfl (Nat.le_of_ble_eq_true rfl) dL_follows_554 ⟨Nat.le_of_ble_eq_true rfl, Nat.le_of_ble_eq_true rfl⟩ (st1 := fun _ => [.long (digA B2)]) (fun _ => rfl) (fun u => [obC q qn qt qs qH qx cI cS ad u]) (fun _ => rfl) (fun o ho H locs hP hD hS => ?_)
    obtain ⟨hab, hg⟩ := ho
    refine lv_aload_n hx hb dL_follows_557 rfl (lv_at hl 2 rfl) ?_
    have hc := o5_digest l G cI cS cL ad mp q qn qt qs qH qx (o := o) hg (by rw [hab]; exact bk2.2.2.2.ns) (by rw [hab]; exact fun k hk => (bk2.2.2.2.1.2.2.1 k hk).1)
    rw [hab] at hc
    refine co_callV (As := []) (rest := [.long (digA B2)]) hE hC X hP hD hS hA hc cp_X5_digest aw_706 ⟨Nat.le_of_ble_eq_true rfl, Nat.le_of_ble_eq_true rfl⟩ [0] (cs := [obC q qn qt qs qH qx cI cS ad o]) rfl (by decide) (fun u => [obC q qn qt qs qH qx cI cS ad u]) (fun _ => rfl) (fun _ => rfl) 3 rfl rfl (q0 := 0) rfl rfl hl.1 rfl (Nat.le_of_ble_eq_true rfl) dL_follows_558 ⟨Nat.le_of_ble_eq_true rfl, Nat.le_of_ble_eq_true rfl⟩ (st1 := fun _ => [.long (digA B2), .long (digA B2)]) (fun _ => rfl) (fun u => [obC q qn qt qs qH qx cI cS ad u]) (fun _ => rfl) (fun o ho H locs hP hD hS => ?_)
    obtain ⟨hab, hg⟩ := ho
    refine W.lcmp hx hb dL_follows_561 ?_
    refine iv_ifne hx hb 569 dL_follows_562 (by decide) (fun c => absurd (lg_self _) c) (fun _ => ?_)
    refine lv_iconst (v := 1) hx hb dL_follows_565 (by decide) ?_
    refine lv_goto (tgt := 570) hx hb dL_follows_566 (by decide) ?_
    rw [← hQQ]
    exact W.zret (v := (1 : Int32)) hx hb hr rfl (ct_endO o ⟨by rw [hab]; exact bk2, hg⟩ rfl hP hD hS) hS.2.2 dL_follows_570
  have m373 : ∀ (B : Ab) (hB : BK bb A B) (o : Ob) (hab : aob o = B) (hg : Gd o) (H : Heap) (locs : List Loc) (ls : Array Slot), va_P G classes [obC q qn qt qs qH qx cI cS ad o].flatten H → va_D A0 [obC q qn qt qs qH qx cI cS ad o].flatten → va_S A0 s.heap H locs → lv_has ls 23 [(0, .ref (q 0)), (1, .int (nI x)), (2, .long (nowV A)), (4, .int (nI ((x % 8)))), (17, .int (nextV A)), (20, .int (1 : Int32))] → W p l e ({ frames := 8, cells := 0, slots := 0, locals := 183 } : Room) s m args below meth c H locs 0 0 QQ (F0 m 373 ls []) := by
    intro B hB o hab hg H locs ls hP hD hS hl
    refine lv_iload hx hb dL_follows_373 (lv_at hl 4 rfl) ?_
    refine lv_if_le (tgt := 446) hx hb dL_follows_375 (by decide) (fun cs1 => ?_) (fun cs1 => ?_)
    · exact m446 B hB o hab hg _ _ _ hP hD hS (lv_sub hl [0, 1, 2, 3, 5] rfl)
    · refine lv_iload hx hb dL_follows_378 (lv_at hl 4 rfl) ?_
      refine lv_sipush (v := 200) hx hb dL_follows_380 (by decide) ?_
      refine lv_icmp_gt (tgt := 446) hx hb dL_follows_383 (by decide) (fun cs2 => ?_) (fun cs2 => ?_)
      · exact m446 B hB o hab hg _ _ _ hP hD hS (lv_sub hl [0, 1, 2, 3, 5] rfl)
      · obtain ⟨t, ht1, ht2, et, hst, hno⟩ := st_sp (A := A) cs1 cs2
        have hl : lv_has ls 23 [(0, .ref (q 0)), (1, .int (nI x)), (2, .long (nowV A)), (4, .int (nI ((x % 8)))), (17, .int (nI t)), (20, .int (1 : Int32))] := by rw [← et]; exact hl
        refine lv_iload hx hb dL_follows_386 (lv_at hl 5 rfl) ?_
        refine lv_if_eq (tgt := 446) hx hb dL_follows_388 (by decide) (fun c => absurd c (by decide)) (fun _ => ?_)
        refine lv_aload_n hx hb dL_follows_391 rfl (lv_at hl 0 rfl) ?_
        refine lv_iload hx hb dL_follows_392 (lv_at hl 4 rfl) ?_
        have hc := oz_pass l G cI cS cL ad mp q qn qt qs qH qx (o := o) hg (nI t) (tk_ok (n := t) (by omega) (by omega))
        rw [hab] at hc
        rw [show passA B (nI t) = ((tkc t B.1).toInt64, (newA B (tks t B.1))) from pass_v (n := t) (by omega) (by omega)] at hc
        refine co_callH (As := [.ref (q 0), .int (nI t)]) (rest := []) hE hC X hP hD hS hA hc cpH_pass aw_465 ⟨Nat.le_of_ble_eq_true rfl, Nat.le_of_ble_eq_true rfl⟩ [0] (cs := [obC q qn qt qs qH qx cI cS ad o]) rfl (by decide) (fun u => [obC q qn qt qs qH qx cI cS ad u]) (fun _ => rfl) (fun _ => rfl) rfl hl.1 rfl (Nat.le_of_ble_eq_true rfl) dL_follows_394 ⟨Nat.le_of_ble_eq_true rfl, Nat.le_of_ble_eq_true rfl⟩ (st1 := fun _ => [.long ((tkc t B.1).toInt64)]) (fun _ => rfl) (fun u => [obC q qn qt qs qH qx cI cS ad u]) (fun _ => rfl) (fun o ho H locs hP hD hS => ?_)
        obtain ⟨hab, hg⟩ := ho
        have hab : aob o = (newA B (tks t B.1)) := hab
        refine lv_lconst (v := 0) hx hb dL_follows_397 (by decide) ?_
        refine W.lcmp hx hb dL_follows_398 ?_
        refine lv_if_le (tgt := 443) hx hb dL_follows_399 (by decide) (fun c => absurd c (st_pos (by omega) hB ht1 ht2 hst)) (fun _ => ?_)
        refine lv_aload_n hx hb dL_follows_402 rfl (lv_at hl 0 rfl) ?_
        have hc := oz_undo l G cI cS cL ad mp q qn qt qs qH qx (o := o) hg (by rw [osz_of hab]; exact push_pos _ _)
        rw [hab] at hc
        rw [undo_new (A := B) hB.2.2.2.2.2.2.1 (tks t B.1)] at hc
        refine co_callH (As := [.ref (q 0)]) (rest := []) hE hC X hP hD hS hA hc cpH_undo aw_687 ⟨Nat.le_of_ble_eq_true rfl, Nat.le_of_ble_eq_true rfl⟩ [0] (cs := [obC q qn qt qs qH qx cI cS ad o]) rfl (by decide) (fun u => [obC q qn qt qs qH qx cI cS ad u]) (fun _ => rfl) (fun _ => rfl) rfl hl.1 rfl (Nat.le_of_ble_eq_true rfl) dL_follows_403 ⟨Nat.le_of_ble_eq_true rfl, Nat.le_of_ble_eq_true rfl⟩ (st1 := fun _ => [.long ((nI (pushL B.2.2.1 B.1).dropLast.length).toInt64)]) (fun _ => rfl) (fun u => [obC q qn qt qs qH qx cI cS ad u]) (fun _ => rfl) (fun o ho H locs hP hD hS => ?_)
        obtain ⟨hab, hg⟩ := ho
        have bk3 := bk_back hB
        obtain ⟨B3, eB3⟩ : ∃ X : Ab, (B.1, B.2.1, (pushL B.2.2.1 B.1).dropLast, B.2.2.2) = X := ⟨_, rfl⟩
        have hab : aob o = B3 := hab.trans eB3
        rw [eB3] at bk3
        refine lv_lconst (v := 0) hx hb dL_follows_406 (by decide) ?_
        refine W.lcmp hx hb dL_follows_407 ?_
        refine lv_if_lt (tgt := 443) hx hb dL_follows_408 (by decide) (fun c => absurd c (undo_ge hB.2.2.2)) (fun _ => ?_)
        refine lv_iload hx hb dL_follows_411 (lv_at hl 4 rfl) ?_
        refine lv_iconst (v := 1) hx hb dL_follows_413 (by decide) ?_
        refine nv_eq hx hb t 1 439 (by omega) (by omega) dL_follows_414 (by decide) (fun cq => ?_) (fun cq => ?_)
        · refine lv_iconst (v := 1) hx hb dL_follows_439 (by decide) ?_
          refine lv_goto (tgt := 444) hx hb dL_follows_440 (by decide) ?_
          refine lv_istore (lv' := [(20, .int (1 : Int32)), (0, .ref (q 0)), (1, .int (nI x)), (2, .long (nowV A)), (4, .int (nI ((x % 8)))), (17, .int (nI t))]) hx hb dL_follows_444 hl (by decide) rfl (fun ls hl => ?_)
          exact m446 B3 bk3 o hab hg _ _ _ hP hD hS (lv_sub hl [1, 2, 3, 4, 0] rfl)
        · refine lv_aload_n hx hb dL_follows_417 rfl (lv_at hl 0 rfl) ?_
          refine lv_iload hx hb dL_follows_418 (lv_at hl 4 rfl) ?_
          refine lv_iconst (v := 1) hx hb dL_follows_420 (by decide) ?_
          refine nv_isub hx hb t 1 (by omega) dL_follows_421 ?_
          have hc := oz_pass l G cI cS cL ad mp q qn qt qs qH qx (o := o) hg (nI ((t - 1))) (tk_ok (n := (t - 1)) (by omega) (by omega))
          rw [hab] at hc
          rw [show passA B3 (nI ((t - 1))) = ((tkc (t - 1) B3.1).toInt64, (newA B3 (tks (t - 1) B3.1))) from pass_v (n := (t - 1)) (by omega) (by omega)] at hc
          refine co_callH (As := [.ref (q 0), .int (nI ((t - 1)))]) (rest := []) hE hC X hP hD hS hA hc cpH_pass aw_465 ⟨Nat.le_of_ble_eq_true rfl, Nat.le_of_ble_eq_true rfl⟩ [0] (cs := [obC q qn qt qs qH qx cI cS ad o]) rfl (by decide) (fun u => [obC q qn qt qs qH qx cI cS ad u]) (fun _ => rfl) (fun _ => rfl) rfl hl.1 rfl (Nat.le_of_ble_eq_true rfl) dL_follows_422 ⟨Nat.le_of_ble_eq_true rfl, Nat.le_of_ble_eq_true rfl⟩ (st1 := fun _ => [.long ((tkc (t - 1) B3.1).toInt64)]) (fun _ => rfl) (fun u => [obC q qn qt qs qH qx cI cS ad u]) (fun _ => rfl) (fun o ho H locs hP hD hS => ?_)
          obtain ⟨hab, hg⟩ := ho
          have hab : aob o = (newA B3 (tks (t - 1) B3.1)) := hab
          refine lv_lconst (v := 0) hx hb dL_follows_425 (by decide) ?_
          refine W.lcmp hx hb dL_follows_426 ?_
          refine iv_ifne hx hb 443 dL_follows_427 (by decide) (fun c => absurd (st_zero (by omega) bk3 ht2 hno) c) (fun _ => ?_)
          refine lv_aload_n hx hb dL_follows_430 rfl (lv_at hl 0 rfl) ?_
          have hc := oz_undo l G cI cS cL ad mp q qn qt qs qH qx (o := o) hg (by rw [osz_of hab]; exact push_pos _ _)
          rw [hab] at hc
          rw [undo_new (A := B3) bk3.2.2.2.2.2.2.1 (tks (t - 1) B3.1)] at hc
          refine co_callH (As := [.ref (q 0)]) (rest := []) hE hC X hP hD hS hA hc cpH_undo aw_687 ⟨Nat.le_of_ble_eq_true rfl, Nat.le_of_ble_eq_true rfl⟩ [0] (cs := [obC q qn qt qs qH qx cI cS ad o]) rfl (by decide) (fun u => [obC q qn qt qs qH qx cI cS ad u]) (fun _ => rfl) (fun _ => rfl) rfl hl.1 rfl (Nat.le_of_ble_eq_true rfl) dL_follows_431 ⟨Nat.le_of_ble_eq_true rfl, Nat.le_of_ble_eq_true rfl⟩ (st1 := fun _ => [.long ((nI (pushL B3.2.2.1 B3.1).dropLast.length).toInt64)]) (fun _ => rfl) (fun u => [obC q qn qt qs qH qx cI cS ad u]) (fun _ => rfl) (fun o ho H locs hP hD hS => ?_)
          obtain ⟨hab, hg⟩ := ho
          have bk4 := bk_back bk3
          obtain ⟨B4, eB4⟩ : ∃ X : Ab, (B3.1, B3.2.1, (pushL B3.2.2.1 B3.1).dropLast, B3.2.2.2) = X := ⟨_, rfl⟩
          have hab : aob o = B4 := hab.trans eB4
          rw [eB4] at bk4
          refine lv_lconst (v := 0) hx hb dL_follows_434 (by decide) ?_
          refine W.lcmp hx hb dL_follows_435 ?_
          refine lv_if_lt (tgt := 443) hx hb dL_follows_436 (by decide) (fun c => absurd c (undo_ge bk3.2.2.2)) (fun _ => ?_)
          refine lv_iconst (v := 1) hx hb dL_follows_439 (by decide) ?_
          refine lv_goto (tgt := 444) hx hb dL_follows_440 (by decide) ?_
          refine lv_istore (lv' := [(20, .int (1 : Int32)), (0, .ref (q 0)), (1, .int (nI x)), (2, .long (nowV A)), (4, .int (nI ((x % 8)))), (17, .int (nI t))]) hx hb dL_follows_444 hl (by decide) rfl (fun ls hl => ?_)
          exact m446 B4 bk4 o hab hg _ _ _ hP hD hS (lv_sub hl [1, 2, 3, 4, 0] rfl)
  have m267 : ∀ (B : Ab) (hB : BK bb A B) (o : Ob) (hab : aob o = B) (hg : Gd o) (H : Heap) (locs : List Loc) (ls : Array Slot), va_P G classes [obC q qn qt qs qH qx cI cS ad o].flatten H → va_D A0 [obC q qn qt qs qH qx cI cS ad o].flatten → va_S A0 s.heap H locs → lv_has ls 23 [(0, .ref (q 0)), (1, .int (nI x)), (2, .long (nowV A)), (4, .int (nI ((x % 8)))), (5, .int (nI ((b8 x)))), (15, .long (lockA A (nI ((x % 8))) (nI ((b8 x))))), (17, .int (nextV A)), (20, .int (1 : Int32))] → W p l e ({ frames := 8, cells := 0, slots := 0, locals := 183 } : Room) s m args below meth c H locs 0 0 QQ (F0 m 267 ls []) := by
    intro B hB o hab hg H locs ls hP hD hS hl
    refine lv_lload hx hb dL_follows_267 (lv_at hl 5 rfl) ?_
    refine lv_lconst (v := 0) hx hb dL_follows_269 (by decide) ?_
    refine W.lcmp hx hb dL_follows_270 ?_
    refine lv_if_le (tgt := 373) hx hb dL_follows_271 (by decide) (fun ci1 => ?_) (fun ci1 => ?_)
    · exact m373 B hB o hab hg _ _ _ hP hD hS (lv_sub hl [0, 1, 2, 3, 6, 7] rfl)
    · refine lv_lload hx hb dL_follows_274 (lv_at hl 5 rfl) ?_
      refine lv_ldc2 hx hb hown (hw _ aw_704) dL_follows_276 ?_
      refine W.lcmp hx hb dL_follows_279 ?_
      refine lv_if_gt (tgt := 373) hx hb dL_follows_280 (by decide) (fun ci2 => ?_) (fun ci2 => ?_)
      · exact m373 B hB o hab hg _ _ _ hP hD hS (lv_sub hl [0, 1, 2, 3, 6, 7] rfl)
      · obtain ⟨t, ht1, ht2, et, hlk, hno⟩ := in_sp (A := A) ha hb8 hne ci1 ci2
        have hl : lv_has ls 23 [(0, .ref (q 0)), (1, .int (nI x)), (2, .long (nowV A)), (4, .int (nI ((x % 8)))), (5, .int (nI ((b8 x)))), (15, .long ((nI t).toInt64)), (17, .int (nextV A)), (20, .int (1 : Int32))] := by rw [← et]; exact hl
        refine lv_iload hx hb dL_follows_283 (lv_at hl 7 rfl) ?_
        refine lv_if_eq (tgt := 373) hx hb dL_follows_285 (by decide) (fun c => absurd c (by decide)) (fun _ => ?_)
        refine lv_aload_n hx hb dL_follows_288 rfl (lv_at hl 0 rfl) ?_
        refine lv_lload hx hb dL_follows_289 (lv_at hl 5 rfl) ?_
        refine lv_l2i hx hb dL_follows_291 rfl ?_
        refine W.eq (g2 := F0 m 292 ls [.int (nI t), .ref (q 0)]) (by rw [Int32.toInt32_toInt64]) ?_
        have hc := oz_pass l G cI cS cL ad mp q qn qt qs qH qx (o := o) hg (nI t) (tk_ok (n := t) (by omega) (by omega))
        rw [hab] at hc
        rw [show passA B (nI t) = ((tkc t B.1).toInt64, (newA B (tks t B.1))) from pass_v (n := t) (by omega) (by omega)] at hc
        refine co_callH (As := [.ref (q 0), .int (nI t)]) (rest := []) hE hC X hP hD hS hA hc cpH_pass aw_465 ⟨Nat.le_of_ble_eq_true rfl, Nat.le_of_ble_eq_true rfl⟩ [0] (cs := [obC q qn qt qs qH qx cI cS ad o]) rfl (by decide) (fun u => [obC q qn qt qs qH qx cI cS ad u]) (fun _ => rfl) (fun _ => rfl) rfl hl.1 rfl (Nat.le_of_ble_eq_true rfl) dL_follows_292 ⟨Nat.le_of_ble_eq_true rfl, Nat.le_of_ble_eq_true rfl⟩ (st1 := fun _ => [.long ((tkc t B.1).toInt64)]) (fun _ => rfl) (fun u => [obC q qn qt qs qH qx cI cS ad u]) (fun _ => rfl) (fun o ho H locs hP hD hS => ?_)
        obtain ⟨hab, hg⟩ := ho
        have hab : aob o = (newA B (tks t B.1)) := hab
        refine lv_lconst (v := 0) hx hb dL_follows_295 (by decide) ?_
        refine W.lcmp hx hb dL_follows_296 ?_
        refine lv_if_lt (tgt := 370) hx hb dL_follows_297 (by decide) (fun c => absurd c (pass_ge (by omega) hB.2.2.2 (by omega))) (fun _ => ?_)
        refine lv_aload_n hx hb dL_follows_300 rfl (lv_at hl 0 rfl) ?_
        refine lv_iload hx hb dL_follows_301 (lv_at hl 3 rfl) ?_
        refine lv_iload hx hb dL_follows_303 (lv_at hl 4 rfl) ?_
        have hc := oz_lockedIn l G cI cS cL ad mp q qn qt qs qH qx (o := o) hg (nI ((x % 8))) (nI ((b8 x))) (par_ok ha hb8 hne)
        rw [hab] at hc
        refine co_callH (As := [.ref (q 0), .int (nI ((x % 8))), .int (nI ((b8 x)))]) (rest := []) hE hC X hP hD hS hA hc cpH_lockedIn aw_638 ⟨Nat.le_of_ble_eq_true rfl, Nat.le_of_ble_eq_true rfl⟩ [0] (cs := [obC q qn qt qs qH qx cI cS ad o]) rfl (by decide) (fun u => [obC q qn qt qs qH qx cI cS ad u]) (fun _ => rfl) (fun _ => rfl) rfl hl.1 rfl (Nat.le_of_ble_eq_true rfl) dL_follows_305 ⟨Nat.le_of_ble_eq_true rfl, Nat.le_of_ble_eq_true rfl⟩ (st1 := fun _ => [.long (lockA (newA B (tks t B.1)) (nI ((x % 8))) (nI ((b8 x))))]) (fun _ => rfl) (fun u => [obC q qn qt qs qH qx cI cS ad u]) (fun _ => rfl) (fun o ho H locs hP hD hS => ?_)
        obtain ⟨hab, hg⟩ := ho
        refine lv_lconst (v := 0) hx hb dL_follows_308 (by decide) ?_
        refine W.lcmp hx hb dL_follows_309 ?_
        refine iv_ifne hx hb 370 dL_follows_310 (by decide) (fun c => absurd (lk_now hB ha hb8 hne hlk) c) (fun _ => ?_)
        refine lv_aload_n hx hb dL_follows_313 rfl (lv_at hl 0 rfl) ?_
        have hc := oz_undo l G cI cS cL ad mp q qn qt qs qH qx (o := o) hg (by rw [osz_of hab]; exact push_pos _ _)
        rw [hab] at hc
        rw [undo_new (A := B) hB.2.2.2.2.2.2.1 (tks t B.1)] at hc
        refine co_callH (As := [.ref (q 0)]) (rest := []) hE hC X hP hD hS hA hc cpH_undo aw_687 ⟨Nat.le_of_ble_eq_true rfl, Nat.le_of_ble_eq_true rfl⟩ [0] (cs := [obC q qn qt qs qH qx cI cS ad o]) rfl (by decide) (fun u => [obC q qn qt qs qH qx cI cS ad u]) (fun _ => rfl) (fun _ => rfl) rfl hl.1 rfl (Nat.le_of_ble_eq_true rfl) dL_follows_314 ⟨Nat.le_of_ble_eq_true rfl, Nat.le_of_ble_eq_true rfl⟩ (st1 := fun _ => [.long ((nI (pushL B.2.2.1 B.1).dropLast.length).toInt64)]) (fun _ => rfl) (fun u => [obC q qn qt qs qH qx cI cS ad u]) (fun _ => rfl) (fun o ho H locs hP hD hS => ?_)
        obtain ⟨hab, hg⟩ := ho
        have bk5 := bk_back hB
        obtain ⟨B5, eB5⟩ : ∃ X : Ab, (B.1, B.2.1, (pushL B.2.2.1 B.1).dropLast, B.2.2.2) = X := ⟨_, rfl⟩
        have hab : aob o = B5 := hab.trans eB5
        rw [eB5] at bk5
        refine lv_lconst (v := 0) hx hb dL_follows_317 (by decide) ?_
        refine W.lcmp hx hb dL_follows_318 ?_
        refine lv_if_lt (tgt := 370) hx hb dL_follows_319 (by decide) (fun c => absurd c (undo_ge hB.2.2.2)) (fun _ => ?_)
        refine lv_lload hx hb dL_follows_322 (lv_at hl 5 rfl) ?_
        refine lv_lconst (v := 1) hx hb dL_follows_324 (by decide) ?_
        refine W.lcmp hx hb dL_follows_325 ?_
        refine lv_if_eq (tgt := 366) hx hb dL_follows_326 (by decide) (fun ct1 => ?_) (fun ct1 => ?_)
        · refine lv_iconst (v := 1) hx hb dL_follows_366 (by decide) ?_
          refine lv_goto (tgt := 371) hx hb dL_follows_367 (by decide) ?_
          refine lv_istore (lv' := [(20, .int (1 : Int32)), (0, .ref (q 0)), (1, .int (nI x)), (2, .long (nowV A)), (4, .int (nI ((x % 8)))), (5, .int (nI ((b8 x)))), (15, .long ((nI t).toInt64)), (17, .int (nextV A))]) hx hb dL_follows_371 hl (by decide) rfl (fun ls hl => ?_)
          exact m373 B5 bk5 o hab hg _ _ _ hP hD hS (lv_sub hl [1, 2, 3, 4, 7, 0] rfl)
        · have ht4 : t ≠ 1 := fun q => ct1 (by rw [q]; exact lg_eq.mpr (by decide +kernel))
          refine lv_aload_n hx hb dL_follows_329 rfl (lv_at hl 0 rfl) ?_
          refine lv_lload hx hb dL_follows_330 (lv_at hl 5 rfl) ?_
          refine lv_l2i hx hb dL_follows_332 rfl ?_
          refine W.eq (g2 := F0 m 333 ls [.int (nI t), .ref (q 0)]) (by rw [Int32.toInt32_toInt64]) ?_
          refine lv_iconst (v := 1) hx hb dL_follows_333 (by decide) ?_
          refine nv_isub hx hb t 1 (by omega) dL_follows_334 ?_
          have hc := oz_pass l G cI cS cL ad mp q qn qt qs qH qx (o := o) hg (nI ((t - 1))) (tk_ok (n := (t - 1)) (by omega) (by omega))
          rw [hab] at hc
          rw [show passA B5 (nI ((t - 1))) = ((tkc (t - 1) B5.1).toInt64, (newA B5 (tks (t - 1) B5.1))) from pass_v (n := (t - 1)) (by omega) (by omega)] at hc
          refine co_callH (As := [.ref (q 0), .int (nI ((t - 1)))]) (rest := []) hE hC X hP hD hS hA hc cpH_pass aw_465 ⟨Nat.le_of_ble_eq_true rfl, Nat.le_of_ble_eq_true rfl⟩ [0] (cs := [obC q qn qt qs qH qx cI cS ad o]) rfl (by decide) (fun u => [obC q qn qt qs qH qx cI cS ad u]) (fun _ => rfl) (fun _ => rfl) rfl hl.1 rfl (Nat.le_of_ble_eq_true rfl) dL_follows_335 ⟨Nat.le_of_ble_eq_true rfl, Nat.le_of_ble_eq_true rfl⟩ (st1 := fun _ => [.long ((tkc (t - 1) B5.1).toInt64)]) (fun _ => rfl) (fun u => [obC q qn qt qs qH qx cI cS ad u]) (fun _ => rfl) (fun o ho H locs hP hD hS => ?_)
          obtain ⟨hab, hg⟩ := ho
          have hab : aob o = (newA B5 (tks (t - 1) B5.1)) := hab
          refine lv_lconst (v := 0) hx hb dL_follows_338 (by decide) ?_
          refine W.lcmp hx hb dL_follows_339 ?_
          refine lv_if_lt (tgt := 370) hx hb dL_follows_340 (by decide) (fun c => absurd c (pass_ge (by omega) bk5.2.2.2 (by omega))) (fun _ => ?_)
          refine lv_aload_n hx hb dL_follows_343 rfl (lv_at hl 0 rfl) ?_
          refine lv_iload hx hb dL_follows_344 (lv_at hl 3 rfl) ?_
          refine lv_iload hx hb dL_follows_346 (lv_at hl 4 rfl) ?_
          refine lv_iconst (v := 2) hx hb dL_follows_348 (by decide) ?_
          have hc := oz_pair l G cI cS cL ad mp q qn qt qs qH qx (o := o) hg (nI ((x % 8))) (nI ((b8 x))) (2 : Int32) (par_ok ha hb8 hne) (by decide)
          rw [hab] at hc
          refine co_callH (As := [.ref (q 0), .int (nI ((x % 8))), .int (nI ((b8 x))), .int (2 : Int32)]) (rest := []) hE hC X hP hD hS hA hc cpH_pair aw_396 ⟨Nat.le_of_ble_eq_true rfl, Nat.le_of_ble_eq_true rfl⟩ [0] (cs := [obC q qn qt qs qH qx cI cS ad o]) rfl (by decide) (fun u => [obC q qn qt qs qH qx cI cS ad u]) (fun _ => rfl) (fun _ => rfl) rfl hl.1 rfl (Nat.le_of_ble_eq_true rfl) dL_follows_349 ⟨Nat.le_of_ble_eq_true rfl, Nat.le_of_ble_eq_true rfl⟩ (st1 := fun _ => [.long (pairA (newA B5 (tks (t - 1) B5.1)) (nI ((x % 8))) (nI ((b8 x))) (2 : Int32))]) (fun _ => rfl) (fun u => [obC q qn qt qs qH qx cI cS ad u]) (fun _ => rfl) (fun o ho H locs hP hD hS => ?_)
          obtain ⟨hab, hg⟩ := ho
          refine lv_lconst (v := 0) hx hb dL_follows_352 (by decide) ?_
          refine W.lcmp hx hb dL_follows_353 ?_
          refine lv_if_eq (tgt := 370) hx hb dL_follows_354 (by decide) (fun c => absurd c (pr_no bk5 ha hb8 hne (hno (t - 1) (by omega)))) (fun _ => ?_)
          refine lv_aload_n hx hb dL_follows_357 rfl (lv_at hl 0 rfl) ?_
          have hc := oz_undo l G cI cS cL ad mp q qn qt qs qH qx (o := o) hg (by rw [osz_of hab]; exact push_pos _ _)
          rw [hab] at hc
          rw [undo_new (A := B5) bk5.2.2.2.2.2.2.1 (tks (t - 1) B5.1)] at hc
          refine co_callH (As := [.ref (q 0)]) (rest := []) hE hC X hP hD hS hA hc cpH_undo aw_687 ⟨Nat.le_of_ble_eq_true rfl, Nat.le_of_ble_eq_true rfl⟩ [0] (cs := [obC q qn qt qs qH qx cI cS ad o]) rfl (by decide) (fun u => [obC q qn qt qs qH qx cI cS ad u]) (fun _ => rfl) (fun _ => rfl) rfl hl.1 rfl (Nat.le_of_ble_eq_true rfl) dL_follows_358 ⟨Nat.le_of_ble_eq_true rfl, Nat.le_of_ble_eq_true rfl⟩ (st1 := fun _ => [.long ((nI (pushL B5.2.2.1 B5.1).dropLast.length).toInt64)]) (fun _ => rfl) (fun u => [obC q qn qt qs qH qx cI cS ad u]) (fun _ => rfl) (fun o ho H locs hP hD hS => ?_)
          obtain ⟨hab, hg⟩ := ho
          have bk6 := bk_back bk5
          obtain ⟨B6, eB6⟩ : ∃ X : Ab, (B5.1, B5.2.1, (pushL B5.2.2.1 B5.1).dropLast, B5.2.2.2) = X := ⟨_, rfl⟩
          have hab : aob o = B6 := hab.trans eB6
          rw [eB6] at bk6
          refine lv_lconst (v := 0) hx hb dL_follows_361 (by decide) ?_
          refine W.lcmp hx hb dL_follows_362 ?_
          refine lv_if_lt (tgt := 370) hx hb dL_follows_363 (by decide) (fun c => absurd c (undo_ge bk5.2.2.2)) (fun _ => ?_)
          refine lv_iconst (v := 1) hx hb dL_follows_366 (by decide) ?_
          refine lv_goto (tgt := 371) hx hb dL_follows_367 (by decide) ?_
          refine lv_istore (lv' := [(20, .int (1 : Int32)), (0, .ref (q 0)), (1, .int (nI x)), (2, .long (nowV A)), (4, .int (nI ((x % 8)))), (5, .int (nI ((b8 x)))), (15, .long ((nI t).toInt64)), (17, .int (nextV A))]) hx hb dL_follows_371 hl (by decide) rfl (fun ls hl => ?_)
          exact m373 B6 bk6 o hab hg _ _ _ hP hD hS (lv_sub hl [1, 2, 3, 4, 7, 0] rfl)
  refine lv_iload hx hb dL_follows_196 (lv_at hl 8 rfl) ?_
  refine lv_iconst (v := 1) hx hb dL_follows_198 (by decide) ?_
  refine nv_le hx hb (1 + (x % 60)) 1 267 (by omega) (by omega) dL_follows_199 (by decide) (fun cn => ?_) (fun cn => ?_)
  · exact m267 B1 bk1 o hab hg _ _ _ hP hD hS (lv_sub hl [12, 13, 11, 10, 9, 3, 2, 0] rfl)
  · refine lv_iload hx hb dL_follows_202 (lv_at hl 0 rfl) ?_
    refine lv_if_eq (tgt := 267) hx hb dL_follows_204 (by decide) (fun c => absurd c (by decide)) (fun _ => ?_)
    refine lv_aload_n hx hb dL_follows_207 rfl (lv_at hl 12 rfl) ?_
    refine lv_iconst (v := 1) hx hb dL_follows_208 (by decide) ?_
    have hc := oz_pass l G cI cS cL ad mp q qn qt qs qH qx (o := o) hg (1 : Int32) (tk_ok (n := 1) (by omega) (by omega))
    rw [hab] at hc
    rw [show passA B1 (1 : Int32) = ((tkc 1 B1.1).toInt64, (newA B1 (tks 1 B1.1))) from pass_v (n := 1) (by omega) (by omega)] at hc
    refine co_callH (As := [.ref (q 0), .int (1 : Int32)]) (rest := []) hE hC X hP hD hS hA hc cpH_pass aw_465 ⟨Nat.le_of_ble_eq_true rfl, Nat.le_of_ble_eq_true rfl⟩ [0] (cs := [obC q qn qt qs qH qx cI cS ad o]) rfl (by decide) (fun u => [obC q qn qt qs qH qx cI cS ad u]) (fun _ => rfl) (fun _ => rfl) rfl hl.1 rfl (Nat.le_of_ble_eq_true rfl) dL_follows_209 ⟨Nat.le_of_ble_eq_true rfl, Nat.le_of_ble_eq_true rfl⟩ (st1 := fun _ => [.long ((tkc 1 B1.1).toInt64)]) (fun _ => rfl) (fun u => [obC q qn qt qs qH qx cI cS ad u]) (fun _ => rfl) (fun o ho H locs hP hD hS => ?_)
    obtain ⟨hab, hg⟩ := ho
    have hab : aob o = (newA B1 (tks 1 B1.1)) := hab
    refine lv_lconst (v := 0) hx hb dL_follows_212 (by decide) ?_
    refine W.lcmp hx hb dL_follows_213 ?_
    refine lv_if_lt (tgt := 264) hx hb dL_follows_214 (by decide) (fun c => absurd c (pass_ge (by omega) bk1.2.2.2 (by omega))) (fun _ => ?_)
    refine lv_aload_n hx hb dL_follows_217 rfl (lv_at hl 12 rfl) ?_
    refine lv_iload hx hb dL_follows_218 (lv_at hl 8 rfl) ?_
    refine lv_iconst (v := 1) hx hb dL_follows_220 (by decide) ?_
    refine nv_isub hx hb (1 + (x % 60)) 1 (by omega) dL_follows_221 ?_
    refine lv_iload hx hb dL_follows_222 (lv_at hl 10 rfl) ?_
    refine lv_iconst (v := 0) hx hb dL_follows_224 (by decide) ?_
    have hc := oz_ifPassed l G cI cS cL ad mp q qn qt qs qH qx (o := o) hg (nI (((1 + (x % 60)) - 1))) (nI ((x % 8))) (0 : Int32) (clk_ok ha) (tk_ok (by omega) (by omega)) (by decide)
    rw [hab] at hc
    refine co_callH (As := [.ref (q 0), .int (nI (((1 + (x % 60)) - 1))), .int (nI ((x % 8))), .int (0 : Int32)]) (rest := []) hE hC X hP hD hS hA hc cpH_ifPassed aw_621 ⟨Nat.le_of_ble_eq_true rfl, Nat.le_of_ble_eq_true rfl⟩ [0] (cs := [obC q qn qt qs qH qx cI cS ad o]) rfl (by decide) (fun u => [obC q qn qt qs qH qx cI cS ad u]) (fun _ => rfl) (fun _ => rfl) rfl hl.1 rfl (Nat.le_of_ble_eq_true rfl) dL_follows_225 ⟨Nat.le_of_ble_eq_true rfl, Nat.le_of_ble_eq_true rfl⟩ (st1 := fun _ => [.long (ifPA (newA B1 (tks 1 B1.1)) (nI (((1 + (x % 60)) - 1))) (nI ((x % 8))) (0 : Int32))]) (fun _ => rfl) (fun u => [obC q qn qt qs qH qx cI cS ad u]) (fun _ => rfl) (fun o ho H locs hP hD hS => ?_)
    obtain ⟨hab, hg⟩ := ho
    refine lv_lload hx hb dL_follows_228 (lv_at hl 7 rfl) ?_
    refine W.lcmp hx hb dL_follows_230 ?_
    refine iv_ifne hx hb 264 dL_follows_231 (by decide) (fun c => absurd (g_ph bk1 (by omega) (by omega) ha) c) (fun _ => ?_)
    refine lv_aload_n hx hb dL_follows_234 rfl (lv_at hl 12 rfl) ?_
    refine lv_iload hx hb dL_follows_235 (lv_at hl 8 rfl) ?_
    refine lv_iconst (v := 1) hx hb dL_follows_237 (by decide) ?_
    refine nv_isub hx hb (1 + (x % 60)) 1 (by omega) dL_follows_238 ?_
    refine lv_iload hx hb dL_follows_239 (lv_at hl 10 rfl) ?_
    refine lv_iconst (v := 2) hx hb dL_follows_241 (by decide) ?_
    have hc := oz_ifPassed l G cI cS cL ad mp q qn qt qs qH qx (o := o) hg (nI (((1 + (x % 60)) - 1))) (nI ((x % 8))) (2 : Int32) (clk_ok ha) (tk_ok (by omega) (by omega)) (by decide)
    rw [hab] at hc
    refine co_callH (As := [.ref (q 0), .int (nI (((1 + (x % 60)) - 1))), .int (nI ((x % 8))), .int (2 : Int32)]) (rest := []) hE hC X hP hD hS hA hc cpH_ifPassed aw_621 ⟨Nat.le_of_ble_eq_true rfl, Nat.le_of_ble_eq_true rfl⟩ [0] (cs := [obC q qn qt qs qH qx cI cS ad o]) rfl (by decide) (fun u => [obC q qn qt qs qH qx cI cS ad u]) (fun _ => rfl) (fun _ => rfl) rfl hl.1 rfl (Nat.le_of_ble_eq_true rfl) dL_follows_242 ⟨Nat.le_of_ble_eq_true rfl, Nat.le_of_ble_eq_true rfl⟩ (st1 := fun _ => [.long (ifPA (newA B1 (tks 1 B1.1)) (nI (((1 + (x % 60)) - 1))) (nI ((x % 8))) (2 : Int32))]) (fun _ => rfl) (fun u => [obC q qn qt qs qH qx cI cS ad u]) (fun _ => rfl) (fun o ho H locs hP hD hS => ?_)
    obtain ⟨hab, hg⟩ := ho
    refine lv_lload hx hb dL_follows_245 (lv_at hl 5 rfl) ?_
    refine W.lcmp hx hb dL_follows_247 ?_
    refine iv_ifne hx hb 264 dL_follows_248 (by decide) (fun c => absurd (g_gm bk1 (by omega) (by omega) ha) c) (fun _ => ?_)
    refine lv_aload_n hx hb dL_follows_251 rfl (lv_at hl 12 rfl) ?_
    have hc := oz_undo l G cI cS cL ad mp q qn qt qs qH qx (o := o) hg (by rw [osz_of hab]; exact push_pos _ _)
    rw [hab] at hc
    rw [undo_new (A := B1) bk1.2.2.2.2.2.2.1 (tks 1 B1.1)] at hc
    refine co_callH (As := [.ref (q 0)]) (rest := []) hE hC X hP hD hS hA hc cpH_undo aw_687 ⟨Nat.le_of_ble_eq_true rfl, Nat.le_of_ble_eq_true rfl⟩ [0] (cs := [obC q qn qt qs qH qx cI cS ad o]) rfl (by decide) (fun u => [obC q qn qt qs qH qx cI cS ad u]) (fun _ => rfl) (fun _ => rfl) rfl hl.1 rfl (Nat.le_of_ble_eq_true rfl) dL_follows_252 ⟨Nat.le_of_ble_eq_true rfl, Nat.le_of_ble_eq_true rfl⟩ (st1 := fun _ => [.long ((nI (pushL B1.2.2.1 B1.1).dropLast.length).toInt64)]) (fun _ => rfl) (fun u => [obC q qn qt qs qH qx cI cS ad u]) (fun _ => rfl) (fun o ho H locs hP hD hS => ?_)
    obtain ⟨hab, hg⟩ := ho
    have bk7 := bk_back bk1
    obtain ⟨B7, eB7⟩ : ∃ X : Ab, (B1.1, B1.2.1, (pushL B1.2.2.1 B1.1).dropLast, B1.2.2.2) = X := ⟨_, rfl⟩
    have hab : aob o = B7 := hab.trans eB7
    rw [eB7] at bk7
    refine lv_lconst (v := 0) hx hb dL_follows_255 (by decide) ?_
    refine W.lcmp hx hb dL_follows_256 ?_
    refine lv_if_lt (tgt := 264) hx hb dL_follows_257 (by decide) (fun c => absurd c (undo_ge bk1.2.2.2)) (fun _ => ?_)
    refine lv_iconst (v := 1) hx hb dL_follows_260 (by decide) ?_
    refine lv_goto (tgt := 265) hx hb dL_follows_261 (by decide) ?_
    refine lv_istore (lv' := [(20, .int (1 : Int32)), (18, .long (countA A (1 : Int32))), (17, .int (nextV A)), (15, .long (lockA A (nI ((x % 8))) (nI ((b8 x))))), (13, .long (clockA A (nI ((x % 8))) (4 : Int32))), (11, .long (ifPA A (nI ((1 + (x % 60)))) (nI ((x % 8))) (2 : Int32))), (9, .long (ifPA A (nI ((1 + (x % 60)))) (nI ((x % 8))) (1 : Int32))), (7, .long (ifPA A (nI ((1 + (x % 60)))) (nI ((x % 8))) (0 : Int32))), (6, .int (nI ((1 + (x % 60))))), (5, .int (nI ((b8 x)))), (4, .int (nI ((x % 8)))), (2, .long (nowV A)), (0, .ref (q 0)), (1, .int (nI x))]) hx hb dL_follows_265 hl (by decide) rfl (fun ls hl => ?_)
    exact m267 B7 bk7 o hab hg _ _ _ hP hD hS (lv_sub hl [12, 13, 11, 10, 9, 3, 2, 0] rfl)
