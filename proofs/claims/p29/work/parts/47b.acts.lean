theorem not_lt_nI {n : Nat} (h : n < 2 ^ 31) : ¬ nI n < 0 := nI_pos h
set_option maxRecDepth 100000 in
set_option maxHeartbeats 4000000 in
theorem o_told (l : Launch) (hlt : l.stackTraces = false) (G : va_G) (cI cS cL : ClassId) (ad : Nat → Nat) (mp : Nat) (q qn qt qs qH qx : Nat → Nat) {o : Ob} (hg : Gd o) (x : Nat) (hx31 : x < 2 ^ 31) : CtO l G (tyl cI cS cL) ad mp yL_told (Cond.code yL_told cL_told 5 (some .long)) 8 181 1 6 [.ref (q 0), .int (nI x)] [obC q qn qt qs qH qx cI cS ad o].flatten (fun u => aob u = (toldA (aob o) x).2 ∧ Gd u) (fun _ => some (.long (toldA (aob o) x).1)) (fun u => [obC q qn qt qs qH qx cI cS ad u].flatten) := by
  obtain ⟨A, hab⟩ : ∃ A, aob o = A := ⟨_, rfl⟩
  rw [hab]
  refine CtO.of (by decide +kernel) (Nat.le_of_ble_eq_true rfl) ?_
  intro p e s m args below meth c A0 ls hx hb hr hml hw hown hlocks hK hN hC hE hP hD hS hA hl
  have hown : s.vm.findClass RL = some m.cls := hown
  have X : Cx p s m args c cL_told 5 RL G (tyl cI cS cL) := ⟨hx, hb, hml, hown, hw, hK, hN⟩
  have hP : va_P G classes [obC q qn qt qs qH qx cI cS ad o].flatten s.heap := hP
  have hl : lv_has ls 5 [(0, .ref (q 0)), (1, .int (nI x))] := hl
  generalize hQQ : MQ below _ args s 1 6 A0 = QQ
  refine lv_aload_n hx hb dL_told_0 rfl (lv_at hl 0 rfl) ?_
  have hc := o5_clearBuffer l G cI cS cL ad mp q qn qt qs qH qx (o := o) hg
  rw [hab] at hc
  have hlA : A.2.2.2.length ≤ 60 := by rw [← hab]; exact (bfL_len _ _).symm ▸ hg.2.1
  refine co_callV (As := []) (rest := []) hE hC X hP hD hS hA hc cp_X5_clearBuffer aw_834 ⟨Nat.le_of_ble_eq_true rfl, Nat.le_of_ble_eq_true rfl⟩ [0] (cs := [obC q qn qt qs qH qx cI cS ad o]) rfl (by decide) (fun u => [obC q qn qt qs qH qx cI cS ad u]) (fun _ => rfl) (fun _ => rfl) 3 rfl rfl (q0 := 0) rfl rfl hl.1 rfl (Nat.le_of_ble_eq_true rfl) dL_told_1 ⟨Nat.le_of_ble_eq_true rfl, Nat.le_of_ble_eq_true rfl⟩ (st1 := fun _ => [.int (nI A.2.2.2.length)]) (fun _ => rfl) (fun u => [obC q qn qt qs qH qx cI cS ad u]) (fun _ => rfl) (fun o ho H locs hP hD hS => ?_)
  obtain ⟨hab, hg⟩ := ho
  have hab : aob o = (A.1, A.2.1, A.2.2.1, []) := hab
  refine lv_if_lt (tgt := 11) hx hb dL_told_4 (by decide) (fun c => absurd c (not_lt_nI (by omega))) (fun _ => ?_)
  refine lv_iconst (v := 1) hx hb dL_told_7 (by decide) ?_
  refine lv_goto (tgt := 12) hx hb dL_told_8 (by decide) ?_
  refine lv_istore_n (lv' := [(2, .int (1 : Int32)), (0, .ref (q 0)), (1, .int (nI x))]) hx hb dL_told_12 rfl hl (by decide) rfl (fun ls hl => ?_)
  have h3 : x % 3 = 0 ∨ x % 3 = 1 ∨ x % 3 = 2 := by omega
  rcases h3 with h3 | h3 | h3
  · refine lv_iconst (v := 0) hx hb dL_told_13 (by decide) ?_
    refine lv_istore_n (lv' := [(3, .int (0 : Int32)), (2, .int (1 : Int32)), (0, .ref (q 0)), (1, .int (nI x))]) hx hb dL_told_14 rfl hl (by decide) rfl (fun ls hl => ?_)
    refine lv_iload_n hx hb dL_told_15 rfl (lv_at hl 0 rfl) ?_
    refine lv_iconst (v := 1) hx hb dL_told_16 (by decide) ?_
    refine lv_iload_n hx hb dL_told_17 rfl (lv_at hl 3 rfl) ?_
    refine lv_iconst (v := 3) hx hb dL_told_18 (by decide) ?_
    refine nv_irem hx hb x 3 (by omega) (by omega) (by omega) dL_told_19 ?_
    refine nv_iadd hx hb 1 (x % 3) dL_told_20 ?_
    refine nv_ge hx hb 0 (1 + (x % 3)) 163 (by omega) (by omega) dL_told_21 (by decide) (fun c => absurd c (by omega)) (fun _ => ?_)
    refine lv_iload_n hx hb dL_told_24 rfl (lv_at hl 1 rfl) ?_
    refine lv_if_eq (tgt := 163) hx hb dL_told_25 (by decide) (fun c => absurd c (by decide)) (fun _ => ?_)
    refine lv_iload_n hx hb dL_told_28 rfl (lv_at hl 3 rfl) ?_
    refine lv_iload_n hx hb dL_told_29 rfl (lv_at hl 0 rfl) ?_
    refine lv_ishr hx hb dL_told_30 ?_
    refine lv_istore (lv' := [(4, .int ((nI x) >>> ((0 : Int32) &&& 31))), (3, .int (0 : Int32)), (2, .int (1 : Int32)), (0, .ref (q 0)), (1, .int (nI x))]) hx hb dL_told_31 hl (by decide) rfl (fun ls hl => ?_)
    have hl : lv_has ls 5 [(4, .int (nI ((x / 1)))), (3, .int (0 : Int32)), (2, .int (1 : Int32)), (0, .ref (q 0)), (1, .int (nI x))] := by rw [show nI (x / 1) = (nI x) >>> ((0 : Int32) &&& 31) from (shr_n hx31 0 (by decide)).symm]; exact hl
    have hy0 : x / 1 < 2 ^ 31 := by omega
    refine lv_aload_n hx hb dL_told_33 rfl (lv_at hl 3 rfl) ?_
    refine lv_bipush (v := 107) hx hb dL_told_34 (by decide) ?_
    refine lv_bipush (v := 48) hx hb dL_told_36 (by decide) ?_
    refine lv_iload hx hb dL_told_38 (lv_at hl 0 rfl) ?_
    refine lv_bipush (v := 8) hx hb dL_told_40 (by decide) ?_
    refine nv_irem hx hb (x / 1) 8 (by omega) (by omega) (by omega) dL_told_42 ?_
    refine nv_iadd hx hb 48 ((x / 1) % 8) dL_told_43 ?_
    refine lv_iload hx hb dL_told_44 (lv_at hl 0 rfl) ?_
    refine lv_iconst (v := 3) hx hb dL_told_46 (by decide) ?_
    refine nv_irem hx hb (x / 1) 3 (by omega) (by omega) (by omega) dL_told_47 ?_
    have mg0 : W p l e ({ frames := 8, cells := 1, slots := 6, locals := 181 } : Room) s m args below meth c H locs 0 0 QQ (F0 m 58 ls [.int (sgn (x / 1)), .int (nI ((48 + ((x / 1) % 8)))), .int (107 : Int32), .ref (q 0)]) := by
      have hc := o_says l G cI cS cL ad mp q qn qt qs qH qx (o := o) hg (107 : Int32) (nI ((48 + ((x / 1) % 8)))) (sgn (x / 1)) (by rw [hab]; exact Nat.le_of_ble_eq_true rfl) (by decide) (cd_ok (by omega) (by omega)) (sgn_ok _)
      rw [hab] at hc
      refine co_callS (As := [.ref (q 0), .int (107 : Int32), .int (nI ((48 + ((x / 1) % 8)))), .int (sgn (x / 1))]) (rest := []) hE hC X hP hD hS hA hc cpS_says aw_842 ⟨Nat.le_of_ble_eq_true rfl, Nat.le_of_ble_eq_true rfl⟩ [0] (cs := [obC q qn qt qs qH qx cI cS ad o]) rfl (by decide) (fun u => [obC q qn qt qs qH qx cI cS ad u]) (fun _ => rfl) (fun _ => rfl) rfl hl.1 rfl (Nat.le_of_ble_eq_true rfl) dL_told_58 ⟨Nat.le_of_ble_eq_true rfl, Nat.le_of_ble_eq_true rfl⟩ (st1 := fun _ => [.int (1 : Int32)]) (fun _ => rfl) (fun u => [obC q qn qt qs qH qx cI cS ad u]) (fun _ => rfl) (fun o ho H locs hP hD hS => ?_)
      obtain ⟨hab, hg⟩ := ho
      have hab : aob o = (A.1, A.2.1, A.2.2.1, [(107 : Int32), (nI ((48 + ((x / 1) % 8)))), (sgn (x / 1))]) := hab
      refine lv_if_eq (tgt := 155) hx hb dL_told_61 (by decide) (fun c => absurd c (by decide)) (fun _ => ?_)
      refine lv_aload_n hx hb dL_told_64 rfl (lv_at hl 3 rfl) ?_
      refine lv_bipush (v := 49) hx hb dL_told_65 (by decide) ?_
      refine lv_iload hx hb dL_told_67 (lv_at hl 0 rfl) ?_
      refine lv_bipush (v := 9) hx hb dL_told_69 (by decide) ?_
      refine nv_irem hx hb (x / 1) 9 (by omega) (by omega) (by omega) dL_told_71 ?_
      refine nv_iadd hx hb 49 ((x / 1) % 9) dL_told_72 ?_
      refine lv_bipush (v := 59) hx hb dL_told_73 (by decide) ?_
      refine lv_bipush (v := 119) hx hb dL_told_75 (by decide) ?_
      have hc := o_says l G cI cS cL ad mp q qn qt qs qH qx (o := o) hg (nI ((49 + ((x / 1) % 9)))) (59 : Int32) (119 : Int32) (by rw [hab]; exact Nat.le_of_ble_eq_true rfl) (cd_ok (by omega) (by omega)) (by decide) (by decide)
      rw [hab] at hc
      refine co_callS (As := [.ref (q 0), .int (nI ((49 + ((x / 1) % 9)))), .int (59 : Int32), .int (119 : Int32)]) (rest := []) hE hC X hP hD hS hA hc cpS_says aw_842 ⟨Nat.le_of_ble_eq_true rfl, Nat.le_of_ble_eq_true rfl⟩ [0] (cs := [obC q qn qt qs qH qx cI cS ad o]) rfl (by decide) (fun u => [obC q qn qt qs qH qx cI cS ad u]) (fun _ => rfl) (fun _ => rfl) rfl hl.1 rfl (Nat.le_of_ble_eq_true rfl) dL_told_77 ⟨Nat.le_of_ble_eq_true rfl, Nat.le_of_ble_eq_true rfl⟩ (st1 := fun _ => [.int (1 : Int32)]) (fun _ => rfl) (fun u => [obC q qn qt qs qH qx cI cS ad u]) (fun _ => rfl) (fun o ho H locs hP hD hS => ?_)
      obtain ⟨hab, hg⟩ := ho
      have hab : aob o = (A.1, A.2.1, A.2.2.1, [(107 : Int32), (nI ((48 + ((x / 1) % 8)))), (sgn (x / 1)), (nI ((49 + ((x / 1) % 9)))), (59 : Int32), (119 : Int32)]) := hab
      refine lv_if_eq (tgt := 155) hx hb dL_told_80 (by decide) (fun c => absurd c (by decide)) (fun _ => ?_)
      refine lv_aload_n hx hb dL_told_83 rfl (lv_at hl 3 rfl) ?_
      refine lv_bipush (v := 48) hx hb dL_told_84 (by decide) ?_
      refine lv_iload hx hb dL_told_86 (lv_at hl 0 rfl) ?_
      refine lv_iconst (v := 2) hx hb dL_told_88 (by decide) ?_
      refine lv_idiv hx hb dL_told_89 (by decide) ?_
      refine W.eq (g2 := F0 m 90 ls [.int (nI (((x / 1) / 2))), .int (48 : Int32), .ref (q 0)]) (by rw [ndiv 2 (m := (2 : Int32)) rfl (by omega) (by decide) (by decide)]) ?_
      refine lv_bipush (v := 8) hx hb dL_told_90 (by decide) ?_
      refine nv_irem hx hb ((x / 1) / 2) 8 (by omega) (by omega) (by omega) dL_told_92 ?_
      refine nv_iadd hx hb 48 (((x / 1) / 2) % 8) dL_told_93 ?_
      refine lv_bipush (v := 59) hx hb dL_told_94 (by decide) ?_
      refine lv_bipush (v := 116) hx hb dL_told_96 (by decide) ?_
      have hc := o_says l G cI cS cL ad mp q qn qt qs qH qx (o := o) hg (nI ((48 + (((x / 1) / 2) % 8)))) (59 : Int32) (116 : Int32) (by rw [hab]; exact Nat.le_of_ble_eq_true rfl) (cd_ok (by omega) (by omega)) (by decide) (by decide)
      rw [hab] at hc
      refine co_callS (As := [.ref (q 0), .int (nI ((48 + (((x / 1) / 2) % 8)))), .int (59 : Int32), .int (116 : Int32)]) (rest := []) hE hC X hP hD hS hA hc cpS_says aw_842 ⟨Nat.le_of_ble_eq_true rfl, Nat.le_of_ble_eq_true rfl⟩ [0] (cs := [obC q qn qt qs qH qx cI cS ad o]) rfl (by decide) (fun u => [obC q qn qt qs qH qx cI cS ad u]) (fun _ => rfl) (fun _ => rfl) rfl hl.1 rfl (Nat.le_of_ble_eq_true rfl) dL_told_98 ⟨Nat.le_of_ble_eq_true rfl, Nat.le_of_ble_eq_true rfl⟩ (st1 := fun _ => [.int (1 : Int32)]) (fun _ => rfl) (fun u => [obC q qn qt qs qH qx cI cS ad u]) (fun _ => rfl) (fun o ho H locs hP hD hS => ?_)
      obtain ⟨hab, hg⟩ := ho
      have hab : aob o = (A.1, A.2.1, A.2.2.1, [(107 : Int32), (nI ((48 + ((x / 1) % 8)))), (sgn (x / 1)), (nI ((49 + ((x / 1) % 9)))), (59 : Int32), (119 : Int32), (nI ((48 + (((x / 1) / 2) % 8)))), (59 : Int32), (116 : Int32)]) := hab
      refine lv_if_eq (tgt := 155) hx hb dL_told_101 (by decide) (fun c => absurd c (by decide)) (fun _ => ?_)
      refine lv_aload_n hx hb dL_told_104 rfl (lv_at hl 3 rfl) ?_
      refine lv_bipush (v := 49) hx hb dL_told_105 (by decide) ?_
      refine lv_iload hx hb dL_told_107 (lv_at hl 0 rfl) ?_
      refine lv_iconst (v := 3) hx hb dL_told_109 (by decide) ?_
      refine lv_idiv hx hb dL_told_110 (by decide) ?_
      refine W.eq (g2 := F0 m 111 ls [.int (nI (((x / 1) / 3))), .int (49 : Int32), .ref (q 0)]) (by rw [ndiv 3 (m := (3 : Int32)) rfl (by omega) (by decide) (by decide)]) ?_
      refine lv_bipush (v := 9) hx hb dL_told_111 (by decide) ?_
      refine nv_irem hx hb ((x / 1) / 3) 9 (by omega) (by omega) (by omega) dL_told_113 ?_
      refine nv_iadd hx hb 49 (((x / 1) / 3) % 9) dL_told_114 ?_
      refine lv_bipush (v := 59) hx hb dL_told_115 (by decide) ?_
      refine lv_bipush (v := 98) hx hb dL_told_117 (by decide) ?_
      have hc := o_says l G cI cS cL ad mp q qn qt qs qH qx (o := o) hg (nI ((49 + (((x / 1) / 3) % 9)))) (59 : Int32) (98 : Int32) (by rw [hab]; exact Nat.le_of_ble_eq_true rfl) (cd_ok (by omega) (by omega)) (by decide) (by decide)
      rw [hab] at hc
      refine co_callS (As := [.ref (q 0), .int (nI ((49 + (((x / 1) / 3) % 9)))), .int (59 : Int32), .int (98 : Int32)]) (rest := []) hE hC X hP hD hS hA hc cpS_says aw_842 ⟨Nat.le_of_ble_eq_true rfl, Nat.le_of_ble_eq_true rfl⟩ [0] (cs := [obC q qn qt qs qH qx cI cS ad o]) rfl (by decide) (fun u => [obC q qn qt qs qH qx cI cS ad u]) (fun _ => rfl) (fun _ => rfl) rfl hl.1 rfl (Nat.le_of_ble_eq_true rfl) dL_told_119 ⟨Nat.le_of_ble_eq_true rfl, Nat.le_of_ble_eq_true rfl⟩ (st1 := fun _ => [.int (1 : Int32)]) (fun _ => rfl) (fun u => [obC q qn qt qs qH qx cI cS ad u]) (fun _ => rfl) (fun o ho H locs hP hD hS => ?_)
      obtain ⟨hab, hg⟩ := ho
      have hab : aob o = (A.1, A.2.1, A.2.2.1, [(107 : Int32), (nI ((48 + ((x / 1) % 8)))), (sgn (x / 1)), (nI ((49 + ((x / 1) % 9)))), (59 : Int32), (119 : Int32), (nI ((48 + (((x / 1) / 2) % 8)))), (59 : Int32), (116 : Int32), (nI ((49 + (((x / 1) / 3) % 9)))), (59 : Int32), (98 : Int32)]) := hab
      refine lv_if_eq (tgt := 155) hx hb dL_told_122 (by decide) (fun c => absurd c (by decide)) (fun _ => ?_)
      refine lv_aload_n hx hb dL_told_125 rfl (lv_at hl 3 rfl) ?_
      refine lv_bipush (v := 48) hx hb dL_told_126 (by decide) ?_
      refine lv_iload hx hb dL_told_128 (lv_at hl 0 rfl) ?_
      refine lv_iconst (v := 5) hx hb dL_told_130 (by decide) ?_
      refine lv_idiv hx hb dL_told_131 (by decide) ?_
      refine W.eq (g2 := F0 m 132 ls [.int (nI (((x / 1) / 5))), .int (48 : Int32), .ref (q 0)]) (by rw [ndiv 5 (m := (5 : Int32)) rfl (by omega) (by decide) (by decide)]) ?_
      refine lv_bipush (v := 8) hx hb dL_told_132 (by decide) ?_
      refine nv_irem hx hb ((x / 1) / 5) 8 (by omega) (by omega) (by omega) dL_told_134 ?_
      refine nv_iadd hx hb 48 (((x / 1) / 5) % 8) dL_told_135 ?_
      refine lv_bipush (v := 48) hx hb dL_told_136 (by decide) ?_
      refine lv_iload hx hb dL_told_138 (lv_at hl 0 rfl) ?_
      refine lv_iconst (v := 3) hx hb dL_told_140 (by decide) ?_
      refine nv_irem hx hb (x / 1) 3 (by omega) (by omega) (by omega) dL_told_141 ?_
      refine nv_iadd hx hb 48 ((x / 1) % 3) dL_told_142 ?_
      refine lv_bipush (v := 59) hx hb dL_told_143 (by decide) ?_
      have hc := o_says l G cI cS cL ad mp q qn qt qs qH qx (o := o) hg (nI ((48 + (((x / 1) / 5) % 8)))) (nI ((48 + ((x / 1) % 3)))) (59 : Int32) (by rw [hab]; exact Nat.le_of_ble_eq_true rfl) (cd_ok (by omega) (by omega)) (cd_ok (by omega) (by omega)) (by decide)
      rw [hab] at hc
      refine co_callS (As := [.ref (q 0), .int (nI ((48 + (((x / 1) / 5) % 8)))), .int (nI ((48 + ((x / 1) % 3)))), .int (59 : Int32)]) (rest := []) hE hC X hP hD hS hA hc cpS_says aw_842 ⟨Nat.le_of_ble_eq_true rfl, Nat.le_of_ble_eq_true rfl⟩ [0] (cs := [obC q qn qt qs qH qx cI cS ad o]) rfl (by decide) (fun u => [obC q qn qt qs qH qx cI cS ad u]) (fun _ => rfl) (fun _ => rfl) rfl hl.1 rfl (Nat.le_of_ble_eq_true rfl) dL_told_145 ⟨Nat.le_of_ble_eq_true rfl, Nat.le_of_ble_eq_true rfl⟩ (st1 := fun _ => [.int (1 : Int32)]) (fun _ => rfl) (fun u => [obC q qn qt qs qH qx cI cS ad u]) (fun _ => rfl) (fun o ho H locs hP hD hS => ?_)
      obtain ⟨hab, hg⟩ := ho
      have hab : aob o = (A.1, A.2.1, A.2.2.1, [(107 : Int32), (nI ((48 + ((x / 1) % 8)))), (sgn (x / 1)), (nI ((49 + ((x / 1) % 9)))), (59 : Int32), (119 : Int32), (nI ((48 + (((x / 1) / 2) % 8)))), (59 : Int32), (116 : Int32), (nI ((49 + (((x / 1) / 3) % 9)))), (59 : Int32), (98 : Int32), (nI ((48 + (((x / 1) / 5) % 8)))), (nI ((48 + ((x / 1) % 3)))), (59 : Int32)]) := hab
      refine lv_if_eq (tgt := 155) hx hb dL_told_148 (by decide) (fun c => absurd c (by decide)) (fun _ => ?_)
      refine lv_iconst (v := 1) hx hb dL_told_151 (by decide) ?_
      refine lv_goto (tgt := 156) hx hb dL_told_152 (by decide) ?_
      refine lv_istore_n (lv' := [(2, .int (1 : Int32)), (4, .int (nI ((x / 1)))), (3, .int (0 : Int32)), (0, .ref (q 0)), (1, .int (nI x))]) hx hb dL_told_156 rfl hl (by decide) rfl (fun ls hl => ?_)
      refine lv_iinc (v := (1 : Int32)) (k := 2) (lv' := [(3, .int (1 : Int32)), (2, .int (1 : Int32)), (4, .int (nI ((x / 1)))), (0, .ref (q 0)), (1, .int (nI x))]) hx hb dL_told_157 hl rfl rfl (by decide) rfl (fun ls hl => ?_)
      refine lv_goto (tgt := 15) hx hb dL_told_160 (by decide) ?_
      refine lv_iload_n hx hb dL_told_15 rfl (lv_at hl 0 rfl) ?_
      refine lv_iconst (v := 1) hx hb dL_told_16 (by decide) ?_
      refine lv_iload_n hx hb dL_told_17 rfl (lv_at hl 4 rfl) ?_
      refine lv_iconst (v := 3) hx hb dL_told_18 (by decide) ?_
      refine nv_irem hx hb x 3 (by omega) (by omega) (by omega) dL_told_19 ?_
      refine nv_iadd hx hb 1 (x % 3) dL_told_20 ?_
      refine nv_ge hx hb 1 (1 + (x % 3)) 163 (by omega) (by omega) dL_told_21 (by decide) (fun _ => ?_) (fun c => absurd (by omega) c)
      refine lv_iload_n hx hb dL_told_163 rfl (lv_at hl 1 rfl) ?_
      refine lv_if_eq (tgt := 218) hx hb dL_told_164 (by decide) (fun c => absurd c (by decide)) (fun _ => ?_)
      refine lv_aload_n hx hb dL_told_167 rfl (lv_at hl 3 rfl) ?_
      refine lv_bipush (v := 116) hx hb dL_told_168 (by decide) ?_
      have hc := oz_append l G cI cS cL ad mp q qn qt qs qH qx (o := o) hg (116 : Int32) (by decide) (by rw [hab]; exact nf_of (Nat.le_of_ble_eq_true rfl))
      rw [hab] at hc
      have ev := app_ok (A := (A.1, A.2.1, A.2.2.1, [(107 : Int32), (nI ((48 + ((x / 1) % 8)))), (sgn (x / 1)), (nI ((49 + ((x / 1) % 9)))), (59 : Int32), (119 : Int32), (nI ((48 + (((x / 1) / 2) % 8)))), (59 : Int32), (116 : Int32), (nI ((49 + (((x / 1) / 3) % 9)))), (59 : Int32), (98 : Int32), (nI ((48 + (((x / 1) / 5) % 8)))), (nI ((48 + ((x / 1) % 3)))), (59 : Int32)])) (c := (116 : Int32)) (by decide) (Nat.le_of_ble_eq_true rfl)
      rw [ev] at hc
      refine co_callH (As := [.ref (q 0), .int (116 : Int32)]) (rest := []) hE hC X hP hD hS hA hc cpH_append aw_603 ⟨Nat.le_of_ble_eq_true rfl, Nat.le_of_ble_eq_true rfl⟩ [0] (cs := [obC q qn qt qs qH qx cI cS ad o]) rfl (by decide) (fun u => [obC q qn qt qs qH qx cI cS ad u]) (fun _ => rfl) (fun _ => rfl) rfl hl.1 rfl (Nat.le_of_ble_eq_true rfl) dL_told_170 ⟨Nat.le_of_ble_eq_true rfl, Nat.le_of_ble_eq_true rfl⟩ (st1 := fun _ => [.long ((nI (15 + 1)).toInt64)]) (fun _ => rfl) (fun u => [obC q qn qt qs qH qx cI cS ad u]) (fun _ => rfl) (fun o ho H locs hP hD hS => ?_)
      obtain ⟨hab, hg⟩ := ho
      have hab : aob o = (A.1, A.2.1, A.2.2.1, [(107 : Int32), (nI ((48 + ((x / 1) % 8)))), (sgn (x / 1)), (nI ((49 + ((x / 1) % 9)))), (59 : Int32), (119 : Int32), (nI ((48 + (((x / 1) / 2) % 8)))), (59 : Int32), (116 : Int32), (nI ((49 + (((x / 1) / 3) % 9)))), (59 : Int32), (98 : Int32), (nI ((48 + (((x / 1) / 5) % 8)))), (nI ((48 + ((x / 1) % 3)))), (59 : Int32), (116 : Int32)]) := hab
      refine lv_lconst (v := 0) hx hb dL_told_173 (by decide) ?_
      refine W.lcmp hx hb dL_told_174 ?_
      refine lv_if_le (tgt := 218) hx hb dL_told_175 (by decide) (fun c => absurd c (lg_pos (by decide))) (fun _ => ?_)
      refine lv_aload_n hx hb dL_told_178 rfl (lv_at hl 3 rfl) ?_
      refine lv_bipush (v := 49) hx hb dL_told_179 (by decide) ?_
      refine lv_iload_n hx hb dL_told_181 rfl (lv_at hl 4 rfl) ?_
      refine lv_bipush (v := 9) hx hb dL_told_182 (by decide) ?_
      refine nv_irem hx hb x 9 (by omega) (by omega) (by omega) dL_told_184 ?_
      refine nv_iadd hx hb 49 (x % 9) dL_told_185 ?_
      have hc := oz_append l G cI cS cL ad mp q qn qt qs qH qx (o := o) hg (nI ((49 + (x % 9)))) (cd_ok (by omega) (by omega)) (by rw [hab]; exact nf_of (Nat.le_of_ble_eq_true rfl))
      rw [hab] at hc
      have ev := app_ok (A := (A.1, A.2.1, A.2.2.1, [(107 : Int32), (nI ((48 + ((x / 1) % 8)))), (sgn (x / 1)), (nI ((49 + ((x / 1) % 9)))), (59 : Int32), (119 : Int32), (nI ((48 + (((x / 1) / 2) % 8)))), (59 : Int32), (116 : Int32), (nI ((49 + (((x / 1) / 3) % 9)))), (59 : Int32), (98 : Int32), (nI ((48 + (((x / 1) / 5) % 8)))), (nI ((48 + ((x / 1) % 3)))), (59 : Int32), (116 : Int32)])) (c := (nI ((49 + (x % 9))))) (cd_ok (by omega) (by omega)) (Nat.le_of_ble_eq_true rfl)
      rw [ev] at hc
      refine co_callH (As := [.ref (q 0), .int (nI ((49 + (x % 9))))]) (rest := []) hE hC X hP hD hS hA hc cpH_append aw_603 ⟨Nat.le_of_ble_eq_true rfl, Nat.le_of_ble_eq_true rfl⟩ [0] (cs := [obC q qn qt qs qH qx cI cS ad o]) rfl (by decide) (fun u => [obC q qn qt qs qH qx cI cS ad u]) (fun _ => rfl) (fun _ => rfl) rfl hl.1 rfl (Nat.le_of_ble_eq_true rfl) dL_told_186 ⟨Nat.le_of_ble_eq_true rfl, Nat.le_of_ble_eq_true rfl⟩ (st1 := fun _ => [.long ((nI (16 + 1)).toInt64)]) (fun _ => rfl) (fun u => [obC q qn qt qs qH qx cI cS ad u]) (fun _ => rfl) (fun o ho H locs hP hD hS => ?_)
      obtain ⟨hab, hg⟩ := ho
      have hab : aob o = (A.1, A.2.1, A.2.2.1, [(107 : Int32), (nI ((48 + ((x / 1) % 8)))), (sgn (x / 1)), (nI ((49 + ((x / 1) % 9)))), (59 : Int32), (119 : Int32), (nI ((48 + (((x / 1) / 2) % 8)))), (59 : Int32), (116 : Int32), (nI ((49 + (((x / 1) / 3) % 9)))), (59 : Int32), (98 : Int32), (nI ((48 + (((x / 1) / 5) % 8)))), (nI ((48 + ((x / 1) % 3)))), (59 : Int32), (116 : Int32), (nI ((49 + (x % 9))))]) := hab
      refine lv_lconst (v := 0) hx hb dL_told_189 (by decide) ?_
      refine W.lcmp hx hb dL_told_190 ?_
      refine lv_if_le (tgt := 218) hx hb dL_told_191 (by decide) (fun c => absurd c (lg_pos (by decide))) (fun _ => ?_)
      have et : textOf x = [(107 : Int32), (nI ((48 + ((x / 1) % 8)))), (sgn (x / 1)), (nI ((49 + ((x / 1) % 9)))), (59 : Int32), (119 : Int32), (nI ((48 + (((x / 1) / 2) % 8)))), (59 : Int32), (116 : Int32), (nI ((49 + (((x / 1) / 3) % 9)))), (59 : Int32), (98 : Int32), (nI ((48 + (((x / 1) / 5) % 8)))), (nI ((48 + ((x / 1) % 3)))), (59 : Int32), (116 : Int32), (nI ((49 + (x % 9))))] := by
        unfold textOf
        rw [if_pos h3]
        rfl
      have hab : aob o = (A.1, A.2.1, A.2.2.1, textOf x) := by rw [et]; exact hab
      refine lv_aload_n hx hb dL_told_194 rfl (lv_at hl 3 rfl) ?_
      have hc := o5_firstError l G cI cS cL ad mp q qn qt qs qH qx (o := o) hg
      rw [hab] at hc
      refine co_callV (As := []) (rest := []) hE hC X hP hD hS hA hc cp_X5_firstError aw_761 ⟨Nat.le_of_ble_eq_true rfl, Nat.le_of_ble_eq_true rfl⟩ [0] (cs := [obC q qn qt qs qH qx cI cS ad o]) rfl (by decide) (fun u => [obC q qn qt qs qH qx cI cS ad u]) (fun _ => rfl) (fun _ => rfl) 3 rfl rfl (q0 := 0) rfl rfl hl.1 rfl (Nat.le_of_ble_eq_true rfl) dL_told_195 ⟨Nat.le_of_ble_eq_true rfl, Nat.le_of_ble_eq_true rfl⟩ (st1 := fun _ => [.int (firstV (A.1, A.2.1, A.2.2.1, textOf x))]) (fun _ => rfl) (fun u => [obC q qn qt qs qH qx cI cS ad u]) (fun _ => rfl) (fun o ho H locs hP hD hS => ?_)
      obtain ⟨hab, hg⟩ := ho
      refine lv_iconst (v := 2) hx hb dL_told_198 (by decide) ?_
      refine lv_bipush (v := 15) hx hb dL_told_199 (by decide) ?_
      refine lv_iconst (v := 1) hx hb dL_told_201 (by decide) ?_
      refine lv_iload_n hx hb dL_told_202 rfl (lv_at hl 4 rfl) ?_
      refine lv_iconst (v := 3) hx hb dL_told_203 (by decide) ?_
      refine nv_irem hx hb x 3 (by omega) (by omega) (by omega) dL_told_204 ?_
      refine nv_iadd hx hb 1 (x % 3) dL_told_205 ?_
      refine nv_imul hx hb 15 (1 + (x % 3)) dL_told_206 ?_
      refine nv_iadd hx hb 2 (15 * (1 + (x % 3))) dL_told_207 ?_
      refine iv_ne hx hb 218 dL_told_208 (by decide) (fun cE => ?_) (fun cE => ?_)
      · refine lv_ldc2 hx hb hown (hw _ aw_671) dL_told_218 ?_
        have ea : toldA A x = (-1, (A.1, A.2.1, A.2.2.1, textOf x)) := if_neg cE
        refine W.widen (k := 1) (n := 6) (Nat.le_of_ble_eq_true rfl) (Nat.le_of_ble_eq_true rfl) ?_
        rw [← hQQ]
        exact W.lret hx hb hr (ct_endO o ⟨by rw [ea]; exact hab, hg⟩ (by show _ = some (Value.long (toldA A x).1); rw [ea]) hP hD hS) hS.2.2 dL_told_221
      · refine lv_aload_n hx hb dL_told_211 rfl (lv_at hl 3 rfl) ?_
        have hc := o_obey l hlt G cI cS cL ad mp q qn qt qs qH qx (o := o) hg
        rw [hab] at hc
        refine co_callH (As := [.ref (q 0)]) (rest := []) hE hC X hP hD hS hA hc cpH_obey aw_845 ⟨Nat.le_of_ble_eq_true rfl, Nat.le_of_ble_eq_true rfl⟩ [0] (cs := [obC q qn qt qs qH qx cI cS ad o]) rfl (by decide) (fun u => [obC q qn qt qs qH qx cI cS ad u]) (fun _ => rfl) (fun _ => rfl) rfl hl.1 rfl (Nat.le_of_ble_eq_true rfl) dL_told_212 ⟨Nat.le_of_ble_eq_true rfl, Nat.le_of_ble_eq_true rfl⟩ (st1 := fun _ => [.long ((obeyA (A.1, A.2.1, A.2.2.1, textOf x)).1)]) (fun _ => rfl) (fun u => [obC q qn qt qs qH qx cI cS ad u]) (fun _ => rfl) (fun o ho H locs hP hD hS => ?_)
        obtain ⟨hab, hg⟩ := ho
        refine lv_goto (tgt := 221) hx hb dL_told_215 (by decide) ?_
        have ea : toldA A x = obeyA (A.1, A.2.1, A.2.2.1, textOf x) := if_pos cE
        refine W.widen (k := 1) (n := 6) (Nat.le_of_ble_eq_true rfl) (Nat.le_of_ble_eq_true rfl) ?_
        rw [← hQQ]
        exact W.lret hx hb hr (ct_endO o ⟨by rw [ea]; exact hab, hg⟩ (by show _ = some (Value.long (toldA A x).1); rw [ea]) hP hD hS) hS.2.2 dL_told_221
    refine iv_ifne hx hb 56 dL_told_48 (by decide) (fun c => ?_) (fun c => ?_)
    · refine lv_bipush (v := 43) hx hb dL_told_56 (by decide) ?_
      rw [show (43 : Int32) = sgn (x / 1) from by unfold sgn; rw [if_neg (fun q => c (by rw [q]; rfl))]]
      exact mg0
    · refine lv_bipush (v := 45) hx hb dL_told_51 (by decide) ?_
      refine lv_goto (tgt := 58) hx hb dL_told_53 (by decide) ?_
      rw [show (45 : Int32) = sgn (x / 1) from by unfold sgn; rw [if_pos ((nI_eq (by omega) (by omega)).mp (c.trans nI_0.symm))]]
      exact mg0
  · refine lv_iconst (v := 0) hx hb dL_told_13 (by decide) ?_
    refine lv_istore_n (lv' := [(3, .int (0 : Int32)), (2, .int (1 : Int32)), (0, .ref (q 0)), (1, .int (nI x))]) hx hb dL_told_14 rfl hl (by decide) rfl (fun ls hl => ?_)
    refine lv_iload_n hx hb dL_told_15 rfl (lv_at hl 0 rfl) ?_
    refine lv_iconst (v := 1) hx hb dL_told_16 (by decide) ?_
    refine lv_iload_n hx hb dL_told_17 rfl (lv_at hl 3 rfl) ?_
    refine lv_iconst (v := 3) hx hb dL_told_18 (by decide) ?_
    refine nv_irem hx hb x 3 (by omega) (by omega) (by omega) dL_told_19 ?_
    refine nv_iadd hx hb 1 (x % 3) dL_told_20 ?_
    refine nv_ge hx hb 0 (1 + (x % 3)) 163 (by omega) (by omega) dL_told_21 (by decide) (fun c => absurd c (by omega)) (fun _ => ?_)
    refine lv_iload_n hx hb dL_told_24 rfl (lv_at hl 1 rfl) ?_
    refine lv_if_eq (tgt := 163) hx hb dL_told_25 (by decide) (fun c => absurd c (by decide)) (fun _ => ?_)
    refine lv_iload_n hx hb dL_told_28 rfl (lv_at hl 3 rfl) ?_
    refine lv_iload_n hx hb dL_told_29 rfl (lv_at hl 0 rfl) ?_
    refine lv_ishr hx hb dL_told_30 ?_
    refine lv_istore (lv' := [(4, .int ((nI x) >>> ((0 : Int32) &&& 31))), (3, .int (0 : Int32)), (2, .int (1 : Int32)), (0, .ref (q 0)), (1, .int (nI x))]) hx hb dL_told_31 hl (by decide) rfl (fun ls hl => ?_)
    have hl : lv_has ls 5 [(4, .int (nI ((x / 1)))), (3, .int (0 : Int32)), (2, .int (1 : Int32)), (0, .ref (q 0)), (1, .int (nI x))] := by rw [show nI (x / 1) = (nI x) >>> ((0 : Int32) &&& 31) from (shr_n hx31 0 (by decide)).symm]; exact hl
    have hy0 : x / 1 < 2 ^ 31 := by omega
    refine lv_aload_n hx hb dL_told_33 rfl (lv_at hl 3 rfl) ?_
    refine lv_bipush (v := 107) hx hb dL_told_34 (by decide) ?_
    refine lv_bipush (v := 48) hx hb dL_told_36 (by decide) ?_
    refine lv_iload hx hb dL_told_38 (lv_at hl 0 rfl) ?_
    refine lv_bipush (v := 8) hx hb dL_told_40 (by decide) ?_
    refine nv_irem hx hb (x / 1) 8 (by omega) (by omega) (by omega) dL_told_42 ?_
    refine nv_iadd hx hb 48 ((x / 1) % 8) dL_told_43 ?_
    refine lv_iload hx hb dL_told_44 (lv_at hl 0 rfl) ?_
    refine lv_iconst (v := 3) hx hb dL_told_46 (by decide) ?_
    refine nv_irem hx hb (x / 1) 3 (by omega) (by omega) (by omega) dL_told_47 ?_
    have mg0 : W p l e ({ frames := 8, cells := 1, slots := 6, locals := 181 } : Room) s m args below meth c H locs 0 0 QQ (F0 m 58 ls [.int (sgn (x / 1)), .int (nI ((48 + ((x / 1) % 8)))), .int (107 : Int32), .ref (q 0)]) := by
      have hc := o_says l G cI cS cL ad mp q qn qt qs qH qx (o := o) hg (107 : Int32) (nI ((48 + ((x / 1) % 8)))) (sgn (x / 1)) (by rw [hab]; exact Nat.le_of_ble_eq_true rfl) (by decide) (cd_ok (by omega) (by omega)) (sgn_ok _)
      rw [hab] at hc
      refine co_callS (As := [.ref (q 0), .int (107 : Int32), .int (nI ((48 + ((x / 1) % 8)))), .int (sgn (x / 1))]) (rest := []) hE hC X hP hD hS hA hc cpS_says aw_842 ⟨Nat.le_of_ble_eq_true rfl, Nat.le_of_ble_eq_true rfl⟩ [0] (cs := [obC q qn qt qs qH qx cI cS ad o]) rfl (by decide) (fun u => [obC q qn qt qs qH qx cI cS ad u]) (fun _ => rfl) (fun _ => rfl) rfl hl.1 rfl (Nat.le_of_ble_eq_true rfl) dL_told_58 ⟨Nat.le_of_ble_eq_true rfl, Nat.le_of_ble_eq_true rfl⟩ (st1 := fun _ => [.int (1 : Int32)]) (fun _ => rfl) (fun u => [obC q qn qt qs qH qx cI cS ad u]) (fun _ => rfl) (fun o ho H locs hP hD hS => ?_)
      obtain ⟨hab, hg⟩ := ho
      have hab : aob o = (A.1, A.2.1, A.2.2.1, [(107 : Int32), (nI ((48 + ((x / 1) % 8)))), (sgn (x / 1))]) := hab
      refine lv_if_eq (tgt := 155) hx hb dL_told_61 (by decide) (fun c => absurd c (by decide)) (fun _ => ?_)
      refine lv_aload_n hx hb dL_told_64 rfl (lv_at hl 3 rfl) ?_
      refine lv_bipush (v := 49) hx hb dL_told_65 (by decide) ?_
      refine lv_iload hx hb dL_told_67 (lv_at hl 0 rfl) ?_
      refine lv_bipush (v := 9) hx hb dL_told_69 (by decide) ?_
      refine nv_irem hx hb (x / 1) 9 (by omega) (by omega) (by omega) dL_told_71 ?_
      refine nv_iadd hx hb 49 ((x / 1) % 9) dL_told_72 ?_
      refine lv_bipush (v := 59) hx hb dL_told_73 (by decide) ?_
      refine lv_bipush (v := 119) hx hb dL_told_75 (by decide) ?_
      have hc := o_says l G cI cS cL ad mp q qn qt qs qH qx (o := o) hg (nI ((49 + ((x / 1) % 9)))) (59 : Int32) (119 : Int32) (by rw [hab]; exact Nat.le_of_ble_eq_true rfl) (cd_ok (by omega) (by omega)) (by decide) (by decide)
      rw [hab] at hc
      refine co_callS (As := [.ref (q 0), .int (nI ((49 + ((x / 1) % 9)))), .int (59 : Int32), .int (119 : Int32)]) (rest := []) hE hC X hP hD hS hA hc cpS_says aw_842 ⟨Nat.le_of_ble_eq_true rfl, Nat.le_of_ble_eq_true rfl⟩ [0] (cs := [obC q qn qt qs qH qx cI cS ad o]) rfl (by decide) (fun u => [obC q qn qt qs qH qx cI cS ad u]) (fun _ => rfl) (fun _ => rfl) rfl hl.1 rfl (Nat.le_of_ble_eq_true rfl) dL_told_77 ⟨Nat.le_of_ble_eq_true rfl, Nat.le_of_ble_eq_true rfl⟩ (st1 := fun _ => [.int (1 : Int32)]) (fun _ => rfl) (fun u => [obC q qn qt qs qH qx cI cS ad u]) (fun _ => rfl) (fun o ho H locs hP hD hS => ?_)
      obtain ⟨hab, hg⟩ := ho
      have hab : aob o = (A.1, A.2.1, A.2.2.1, [(107 : Int32), (nI ((48 + ((x / 1) % 8)))), (sgn (x / 1)), (nI ((49 + ((x / 1) % 9)))), (59 : Int32), (119 : Int32)]) := hab
      refine lv_if_eq (tgt := 155) hx hb dL_told_80 (by decide) (fun c => absurd c (by decide)) (fun _ => ?_)
      refine lv_aload_n hx hb dL_told_83 rfl (lv_at hl 3 rfl) ?_
      refine lv_bipush (v := 48) hx hb dL_told_84 (by decide) ?_
      refine lv_iload hx hb dL_told_86 (lv_at hl 0 rfl) ?_
      refine lv_iconst (v := 2) hx hb dL_told_88 (by decide) ?_
      refine lv_idiv hx hb dL_told_89 (by decide) ?_
      refine W.eq (g2 := F0 m 90 ls [.int (nI (((x / 1) / 2))), .int (48 : Int32), .ref (q 0)]) (by rw [ndiv 2 (m := (2 : Int32)) rfl (by omega) (by decide) (by decide)]) ?_
      refine lv_bipush (v := 8) hx hb dL_told_90 (by decide) ?_
      refine nv_irem hx hb ((x / 1) / 2) 8 (by omega) (by omega) (by omega) dL_told_92 ?_
      refine nv_iadd hx hb 48 (((x / 1) / 2) % 8) dL_told_93 ?_
      refine lv_bipush (v := 59) hx hb dL_told_94 (by decide) ?_
      refine lv_bipush (v := 116) hx hb dL_told_96 (by decide) ?_
      have hc := o_says l G cI cS cL ad mp q qn qt qs qH qx (o := o) hg (nI ((48 + (((x / 1) / 2) % 8)))) (59 : Int32) (116 : Int32) (by rw [hab]; exact Nat.le_of_ble_eq_true rfl) (cd_ok (by omega) (by omega)) (by decide) (by decide)
      rw [hab] at hc
      refine co_callS (As := [.ref (q 0), .int (nI ((48 + (((x / 1) / 2) % 8)))), .int (59 : Int32), .int (116 : Int32)]) (rest := []) hE hC X hP hD hS hA hc cpS_says aw_842 ⟨Nat.le_of_ble_eq_true rfl, Nat.le_of_ble_eq_true rfl⟩ [0] (cs := [obC q qn qt qs qH qx cI cS ad o]) rfl (by decide) (fun u => [obC q qn qt qs qH qx cI cS ad u]) (fun _ => rfl) (fun _ => rfl) rfl hl.1 rfl (Nat.le_of_ble_eq_true rfl) dL_told_98 ⟨Nat.le_of_ble_eq_true rfl, Nat.le_of_ble_eq_true rfl⟩ (st1 := fun _ => [.int (1 : Int32)]) (fun _ => rfl) (fun u => [obC q qn qt qs qH qx cI cS ad u]) (fun _ => rfl) (fun o ho H locs hP hD hS => ?_)
      obtain ⟨hab, hg⟩ := ho
      have hab : aob o = (A.1, A.2.1, A.2.2.1, [(107 : Int32), (nI ((48 + ((x / 1) % 8)))), (sgn (x / 1)), (nI ((49 + ((x / 1) % 9)))), (59 : Int32), (119 : Int32), (nI ((48 + (((x / 1) / 2) % 8)))), (59 : Int32), (116 : Int32)]) := hab
      refine lv_if_eq (tgt := 155) hx hb dL_told_101 (by decide) (fun c => absurd c (by decide)) (fun _ => ?_)
      refine lv_aload_n hx hb dL_told_104 rfl (lv_at hl 3 rfl) ?_
      refine lv_bipush (v := 49) hx hb dL_told_105 (by decide) ?_
      refine lv_iload hx hb dL_told_107 (lv_at hl 0 rfl) ?_
      refine lv_iconst (v := 3) hx hb dL_told_109 (by decide) ?_
      refine lv_idiv hx hb dL_told_110 (by decide) ?_
      refine W.eq (g2 := F0 m 111 ls [.int (nI (((x / 1) / 3))), .int (49 : Int32), .ref (q 0)]) (by rw [ndiv 3 (m := (3 : Int32)) rfl (by omega) (by decide) (by decide)]) ?_
      refine lv_bipush (v := 9) hx hb dL_told_111 (by decide) ?_
      refine nv_irem hx hb ((x / 1) / 3) 9 (by omega) (by omega) (by omega) dL_told_113 ?_
      refine nv_iadd hx hb 49 (((x / 1) / 3) % 9) dL_told_114 ?_
      refine lv_bipush (v := 59) hx hb dL_told_115 (by decide) ?_
      refine lv_bipush (v := 98) hx hb dL_told_117 (by decide) ?_
      have hc := o_says l G cI cS cL ad mp q qn qt qs qH qx (o := o) hg (nI ((49 + (((x / 1) / 3) % 9)))) (59 : Int32) (98 : Int32) (by rw [hab]; exact Nat.le_of_ble_eq_true rfl) (cd_ok (by omega) (by omega)) (by decide) (by decide)
      rw [hab] at hc
      refine co_callS (As := [.ref (q 0), .int (nI ((49 + (((x / 1) / 3) % 9)))), .int (59 : Int32), .int (98 : Int32)]) (rest := []) hE hC X hP hD hS hA hc cpS_says aw_842 ⟨Nat.le_of_ble_eq_true rfl, Nat.le_of_ble_eq_true rfl⟩ [0] (cs := [obC q qn qt qs qH qx cI cS ad o]) rfl (by decide) (fun u => [obC q qn qt qs qH qx cI cS ad u]) (fun _ => rfl) (fun _ => rfl) rfl hl.1 rfl (Nat.le_of_ble_eq_true rfl) dL_told_119 ⟨Nat.le_of_ble_eq_true rfl, Nat.le_of_ble_eq_true rfl⟩ (st1 := fun _ => [.int (1 : Int32)]) (fun _ => rfl) (fun u => [obC q qn qt qs qH qx cI cS ad u]) (fun _ => rfl) (fun o ho H locs hP hD hS => ?_)
      obtain ⟨hab, hg⟩ := ho
      have hab : aob o = (A.1, A.2.1, A.2.2.1, [(107 : Int32), (nI ((48 + ((x / 1) % 8)))), (sgn (x / 1)), (nI ((49 + ((x / 1) % 9)))), (59 : Int32), (119 : Int32), (nI ((48 + (((x / 1) / 2) % 8)))), (59 : Int32), (116 : Int32), (nI ((49 + (((x / 1) / 3) % 9)))), (59 : Int32), (98 : Int32)]) := hab
      refine lv_if_eq (tgt := 155) hx hb dL_told_122 (by decide) (fun c => absurd c (by decide)) (fun _ => ?_)
      refine lv_aload_n hx hb dL_told_125 rfl (lv_at hl 3 rfl) ?_
      refine lv_bipush (v := 48) hx hb dL_told_126 (by decide) ?_
      refine lv_iload hx hb dL_told_128 (lv_at hl 0 rfl) ?_
      refine lv_iconst (v := 5) hx hb dL_told_130 (by decide) ?_
      refine lv_idiv hx hb dL_told_131 (by decide) ?_
      refine W.eq (g2 := F0 m 132 ls [.int (nI (((x / 1) / 5))), .int (48 : Int32), .ref (q 0)]) (by rw [ndiv 5 (m := (5 : Int32)) rfl (by omega) (by decide) (by decide)]) ?_
      refine lv_bipush (v := 8) hx hb dL_told_132 (by decide) ?_
      refine nv_irem hx hb ((x / 1) / 5) 8 (by omega) (by omega) (by omega) dL_told_134 ?_
      refine nv_iadd hx hb 48 (((x / 1) / 5) % 8) dL_told_135 ?_
      refine lv_bipush (v := 48) hx hb dL_told_136 (by decide) ?_
      refine lv_iload hx hb dL_told_138 (lv_at hl 0 rfl) ?_
      refine lv_iconst (v := 3) hx hb dL_told_140 (by decide) ?_
      refine nv_irem hx hb (x / 1) 3 (by omega) (by omega) (by omega) dL_told_141 ?_
      refine nv_iadd hx hb 48 ((x / 1) % 3) dL_told_142 ?_
      refine lv_bipush (v := 59) hx hb dL_told_143 (by decide) ?_
      have hc := o_says l G cI cS cL ad mp q qn qt qs qH qx (o := o) hg (nI ((48 + (((x / 1) / 5) % 8)))) (nI ((48 + ((x / 1) % 3)))) (59 : Int32) (by rw [hab]; exact Nat.le_of_ble_eq_true rfl) (cd_ok (by omega) (by omega)) (cd_ok (by omega) (by omega)) (by decide)
      rw [hab] at hc
      refine co_callS (As := [.ref (q 0), .int (nI ((48 + (((x / 1) / 5) % 8)))), .int (nI ((48 + ((x / 1) % 3)))), .int (59 : Int32)]) (rest := []) hE hC X hP hD hS hA hc cpS_says aw_842 ⟨Nat.le_of_ble_eq_true rfl, Nat.le_of_ble_eq_true rfl⟩ [0] (cs := [obC q qn qt qs qH qx cI cS ad o]) rfl (by decide) (fun u => [obC q qn qt qs qH qx cI cS ad u]) (fun _ => rfl) (fun _ => rfl) rfl hl.1 rfl (Nat.le_of_ble_eq_true rfl) dL_told_145 ⟨Nat.le_of_ble_eq_true rfl, Nat.le_of_ble_eq_true rfl⟩ (st1 := fun _ => [.int (1 : Int32)]) (fun _ => rfl) (fun u => [obC q qn qt qs qH qx cI cS ad u]) (fun _ => rfl) (fun o ho H locs hP hD hS => ?_)
      obtain ⟨hab, hg⟩ := ho
      have hab : aob o = (A.1, A.2.1, A.2.2.1, [(107 : Int32), (nI ((48 + ((x / 1) % 8)))), (sgn (x / 1)), (nI ((49 + ((x / 1) % 9)))), (59 : Int32), (119 : Int32), (nI ((48 + (((x / 1) / 2) % 8)))), (59 : Int32), (116 : Int32), (nI ((49 + (((x / 1) / 3) % 9)))), (59 : Int32), (98 : Int32), (nI ((48 + (((x / 1) / 5) % 8)))), (nI ((48 + ((x / 1) % 3)))), (59 : Int32)]) := hab
      refine lv_if_eq (tgt := 155) hx hb dL_told_148 (by decide) (fun c => absurd c (by decide)) (fun _ => ?_)
      refine lv_iconst (v := 1) hx hb dL_told_151 (by decide) ?_
      refine lv_goto (tgt := 156) hx hb dL_told_152 (by decide) ?_
      refine lv_istore_n (lv' := [(2, .int (1 : Int32)), (4, .int (nI ((x / 1)))), (3, .int (0 : Int32)), (0, .ref (q 0)), (1, .int (nI x))]) hx hb dL_told_156 rfl hl (by decide) rfl (fun ls hl => ?_)
      refine lv_iinc (v := (1 : Int32)) (k := 2) (lv' := [(3, .int (1 : Int32)), (2, .int (1 : Int32)), (4, .int (nI ((x / 1)))), (0, .ref (q 0)), (1, .int (nI x))]) hx hb dL_told_157 hl rfl rfl (by decide) rfl (fun ls hl => ?_)
      refine lv_goto (tgt := 15) hx hb dL_told_160 (by decide) ?_
      refine lv_iload_n hx hb dL_told_15 rfl (lv_at hl 0 rfl) ?_
      refine lv_iconst (v := 1) hx hb dL_told_16 (by decide) ?_
      refine lv_iload_n hx hb dL_told_17 rfl (lv_at hl 4 rfl) ?_
      refine lv_iconst (v := 3) hx hb dL_told_18 (by decide) ?_
      refine nv_irem hx hb x 3 (by omega) (by omega) (by omega) dL_told_19 ?_
      refine nv_iadd hx hb 1 (x % 3) dL_told_20 ?_
      refine nv_ge hx hb 1 (1 + (x % 3)) 163 (by omega) (by omega) dL_told_21 (by decide) (fun c => absurd c (by omega)) (fun _ => ?_)
      refine lv_iload_n hx hb dL_told_24 rfl (lv_at hl 1 rfl) ?_
      refine lv_if_eq (tgt := 163) hx hb dL_told_25 (by decide) (fun c => absurd c (by decide)) (fun _ => ?_)
      refine lv_iload_n hx hb dL_told_28 rfl (lv_at hl 4 rfl) ?_
      refine lv_iload_n hx hb dL_told_29 rfl (lv_at hl 0 rfl) ?_
      refine lv_ishr hx hb dL_told_30 ?_
      refine lv_istore (lv' := [(4, .int ((nI x) >>> ((1 : Int32) &&& 31))), (3, .int (1 : Int32)), (2, .int (1 : Int32)), (0, .ref (q 0)), (1, .int (nI x))]) hx hb dL_told_31 hl (by decide) rfl (fun ls hl => ?_)
      have hl : lv_has ls 5 [(4, .int (nI ((x / 2)))), (3, .int (1 : Int32)), (2, .int (1 : Int32)), (0, .ref (q 0)), (1, .int (nI x))] := by rw [show nI (x / 2) = (nI x) >>> ((1 : Int32) &&& 31) from (shr_n hx31 1 (by decide)).symm]; exact hl
      have hy1 : x / 2 < 2 ^ 31 := by omega
      refine lv_aload_n hx hb dL_told_33 rfl (lv_at hl 3 rfl) ?_
      refine lv_bipush (v := 107) hx hb dL_told_34 (by decide) ?_
      refine lv_bipush (v := 48) hx hb dL_told_36 (by decide) ?_
      refine lv_iload hx hb dL_told_38 (lv_at hl 0 rfl) ?_
      refine lv_bipush (v := 8) hx hb dL_told_40 (by decide) ?_
      refine nv_irem hx hb (x / 2) 8 (by omega) (by omega) (by omega) dL_told_42 ?_
      refine nv_iadd hx hb 48 ((x / 2) % 8) dL_told_43 ?_
      refine lv_iload hx hb dL_told_44 (lv_at hl 0 rfl) ?_
      refine lv_iconst (v := 3) hx hb dL_told_46 (by decide) ?_
      refine nv_irem hx hb (x / 2) 3 (by omega) (by omega) (by omega) dL_told_47 ?_
      have mg1 : W p l e ({ frames := 8, cells := 1, slots := 6, locals := 181 } : Room) s m args below meth c H locs 0 0 QQ (F0 m 58 ls [.int (sgn (x / 2)), .int (nI ((48 + ((x / 2) % 8)))), .int (107 : Int32), .ref (q 0)]) := by
        have hc := o_says l G cI cS cL ad mp q qn qt qs qH qx (o := o) hg (107 : Int32) (nI ((48 + ((x / 2) % 8)))) (sgn (x / 2)) (by rw [hab]; exact Nat.le_of_ble_eq_true rfl) (by decide) (cd_ok (by omega) (by omega)) (sgn_ok _)
        rw [hab] at hc
        refine co_callS (As := [.ref (q 0), .int (107 : Int32), .int (nI ((48 + ((x / 2) % 8)))), .int (sgn (x / 2))]) (rest := []) hE hC X hP hD hS hA hc cpS_says aw_842 ⟨Nat.le_of_ble_eq_true rfl, Nat.le_of_ble_eq_true rfl⟩ [0] (cs := [obC q qn qt qs qH qx cI cS ad o]) rfl (by decide) (fun u => [obC q qn qt qs qH qx cI cS ad u]) (fun _ => rfl) (fun _ => rfl) rfl hl.1 rfl (Nat.le_of_ble_eq_true rfl) dL_told_58 ⟨Nat.le_of_ble_eq_true rfl, Nat.le_of_ble_eq_true rfl⟩ (st1 := fun _ => [.int (1 : Int32)]) (fun _ => rfl) (fun u => [obC q qn qt qs qH qx cI cS ad u]) (fun _ => rfl) (fun o ho H locs hP hD hS => ?_)
        obtain ⟨hab, hg⟩ := ho
        have hab : aob o = (A.1, A.2.1, A.2.2.1, [(107 : Int32), (nI ((48 + ((x / 1) % 8)))), (sgn (x / 1)), (nI ((49 + ((x / 1) % 9)))), (59 : Int32), (119 : Int32), (nI ((48 + (((x / 1) / 2) % 8)))), (59 : Int32), (116 : Int32), (nI ((49 + (((x / 1) / 3) % 9)))), (59 : Int32), (98 : Int32), (nI ((48 + (((x / 1) / 5) % 8)))), (nI ((48 + ((x / 1) % 3)))), (59 : Int32), (107 : Int32), (nI ((48 + ((x / 2) % 8)))), (sgn (x / 2))]) := hab
        refine lv_if_eq (tgt := 155) hx hb dL_told_61 (by decide) (fun c => absurd c (by decide)) (fun _ => ?_)
        refine lv_aload_n hx hb dL_told_64 rfl (lv_at hl 3 rfl) ?_
        refine lv_bipush (v := 49) hx hb dL_told_65 (by decide) ?_
        refine lv_iload hx hb dL_told_67 (lv_at hl 0 rfl) ?_
        refine lv_bipush (v := 9) hx hb dL_told_69 (by decide) ?_
        refine nv_irem hx hb (x / 2) 9 (by omega) (by omega) (by omega) dL_told_71 ?_
        refine nv_iadd hx hb 49 ((x / 2) % 9) dL_told_72 ?_
        refine lv_bipush (v := 59) hx hb dL_told_73 (by decide) ?_
        refine lv_bipush (v := 119) hx hb dL_told_75 (by decide) ?_
        have hc := o_says l G cI cS cL ad mp q qn qt qs qH qx (o := o) hg (nI ((49 + ((x / 2) % 9)))) (59 : Int32) (119 : Int32) (by rw [hab]; exact Nat.le_of_ble_eq_true rfl) (cd_ok (by omega) (by omega)) (by decide) (by decide)
        rw [hab] at hc
        refine co_callS (As := [.ref (q 0), .int (nI ((49 + ((x / 2) % 9)))), .int (59 : Int32), .int (119 : Int32)]) (rest := []) hE hC X hP hD hS hA hc cpS_says aw_842 ⟨Nat.le_of_ble_eq_true rfl, Nat.le_of_ble_eq_true rfl⟩ [0] (cs := [obC q qn qt qs qH qx cI cS ad o]) rfl (by decide) (fun u => [obC q qn qt qs qH qx cI cS ad u]) (fun _ => rfl) (fun _ => rfl) rfl hl.1 rfl (Nat.le_of_ble_eq_true rfl) dL_told_77 ⟨Nat.le_of_ble_eq_true rfl, Nat.le_of_ble_eq_true rfl⟩ (st1 := fun _ => [.int (1 : Int32)]) (fun _ => rfl) (fun u => [obC q qn qt qs qH qx cI cS ad u]) (fun _ => rfl) (fun o ho H locs hP hD hS => ?_)
        obtain ⟨hab, hg⟩ := ho
        have hab : aob o = (A.1, A.2.1, A.2.2.1, [(107 : Int32), (nI ((48 + ((x / 1) % 8)))), (sgn (x / 1)), (nI ((49 + ((x / 1) % 9)))), (59 : Int32), (119 : Int32), (nI ((48 + (((x / 1) / 2) % 8)))), (59 : Int32), (116 : Int32), (nI ((49 + (((x / 1) / 3) % 9)))), (59 : Int32), (98 : Int32), (nI ((48 + (((x / 1) / 5) % 8)))), (nI ((48 + ((x / 1) % 3)))), (59 : Int32), (107 : Int32), (nI ((48 + ((x / 2) % 8)))), (sgn (x / 2)), (nI ((49 + ((x / 2) % 9)))), (59 : Int32), (119 : Int32)]) := hab
        refine lv_if_eq (tgt := 155) hx hb dL_told_80 (by decide) (fun c => absurd c (by decide)) (fun _ => ?_)
        refine lv_aload_n hx hb dL_told_83 rfl (lv_at hl 3 rfl) ?_
        refine lv_bipush (v := 48) hx hb dL_told_84 (by decide) ?_
        refine lv_iload hx hb dL_told_86 (lv_at hl 0 rfl) ?_
        refine lv_iconst (v := 2) hx hb dL_told_88 (by decide) ?_
        refine lv_idiv hx hb dL_told_89 (by decide) ?_
        refine W.eq (g2 := F0 m 90 ls [.int (nI (((x / 2) / 2))), .int (48 : Int32), .ref (q 0)]) (by rw [ndiv 2 (m := (2 : Int32)) rfl (by omega) (by decide) (by decide)]) ?_
        refine lv_bipush (v := 8) hx hb dL_told_90 (by decide) ?_
        refine nv_irem hx hb ((x / 2) / 2) 8 (by omega) (by omega) (by omega) dL_told_92 ?_
        refine nv_iadd hx hb 48 (((x / 2) / 2) % 8) dL_told_93 ?_
        refine lv_bipush (v := 59) hx hb dL_told_94 (by decide) ?_
        refine lv_bipush (v := 116) hx hb dL_told_96 (by decide) ?_
        have hc := o_says l G cI cS cL ad mp q qn qt qs qH qx (o := o) hg (nI ((48 + (((x / 2) / 2) % 8)))) (59 : Int32) (116 : Int32) (by rw [hab]; exact Nat.le_of_ble_eq_true rfl) (cd_ok (by omega) (by omega)) (by decide) (by decide)
        rw [hab] at hc
        refine co_callS (As := [.ref (q 0), .int (nI ((48 + (((x / 2) / 2) % 8)))), .int (59 : Int32), .int (116 : Int32)]) (rest := []) hE hC X hP hD hS hA hc cpS_says aw_842 ⟨Nat.le_of_ble_eq_true rfl, Nat.le_of_ble_eq_true rfl⟩ [0] (cs := [obC q qn qt qs qH qx cI cS ad o]) rfl (by decide) (fun u => [obC q qn qt qs qH qx cI cS ad u]) (fun _ => rfl) (fun _ => rfl) rfl hl.1 rfl (Nat.le_of_ble_eq_true rfl) dL_told_98 ⟨Nat.le_of_ble_eq_true rfl, Nat.le_of_ble_eq_true rfl⟩ (st1 := fun _ => [.int (1 : Int32)]) (fun _ => rfl) (fun u => [obC q qn qt qs qH qx cI cS ad u]) (fun _ => rfl) (fun o ho H locs hP hD hS => ?_)
        obtain ⟨hab, hg⟩ := ho
        have hab : aob o = (A.1, A.2.1, A.2.2.1, [(107 : Int32), (nI ((48 + ((x / 1) % 8)))), (sgn (x / 1)), (nI ((49 + ((x / 1) % 9)))), (59 : Int32), (119 : Int32), (nI ((48 + (((x / 1) / 2) % 8)))), (59 : Int32), (116 : Int32), (nI ((49 + (((x / 1) / 3) % 9)))), (59 : Int32), (98 : Int32), (nI ((48 + (((x / 1) / 5) % 8)))), (nI ((48 + ((x / 1) % 3)))), (59 : Int32), (107 : Int32), (nI ((48 + ((x / 2) % 8)))), (sgn (x / 2)), (nI ((49 + ((x / 2) % 9)))), (59 : Int32), (119 : Int32), (nI ((48 + (((x / 2) / 2) % 8)))), (59 : Int32), (116 : Int32)]) := hab
        refine lv_if_eq (tgt := 155) hx hb dL_told_101 (by decide) (fun c => absurd c (by decide)) (fun _ => ?_)
        refine lv_aload_n hx hb dL_told_104 rfl (lv_at hl 3 rfl) ?_
        refine lv_bipush (v := 49) hx hb dL_told_105 (by decide) ?_
        refine lv_iload hx hb dL_told_107 (lv_at hl 0 rfl) ?_
        refine lv_iconst (v := 3) hx hb dL_told_109 (by decide) ?_
        refine lv_idiv hx hb dL_told_110 (by decide) ?_
        refine W.eq (g2 := F0 m 111 ls [.int (nI (((x / 2) / 3))), .int (49 : Int32), .ref (q 0)]) (by rw [ndiv 3 (m := (3 : Int32)) rfl (by omega) (by decide) (by decide)]) ?_
        refine lv_bipush (v := 9) hx hb dL_told_111 (by decide) ?_
        refine nv_irem hx hb ((x / 2) / 3) 9 (by omega) (by omega) (by omega) dL_told_113 ?_
        refine nv_iadd hx hb 49 (((x / 2) / 3) % 9) dL_told_114 ?_
        refine lv_bipush (v := 59) hx hb dL_told_115 (by decide) ?_
        refine lv_bipush (v := 98) hx hb dL_told_117 (by decide) ?_
        have hc := o_says l G cI cS cL ad mp q qn qt qs qH qx (o := o) hg (nI ((49 + (((x / 2) / 3) % 9)))) (59 : Int32) (98 : Int32) (by rw [hab]; exact Nat.le_of_ble_eq_true rfl) (cd_ok (by omega) (by omega)) (by decide) (by decide)
        rw [hab] at hc
        refine co_callS (As := [.ref (q 0), .int (nI ((49 + (((x / 2) / 3) % 9)))), .int (59 : Int32), .int (98 : Int32)]) (rest := []) hE hC X hP hD hS hA hc cpS_says aw_842 ⟨Nat.le_of_ble_eq_true rfl, Nat.le_of_ble_eq_true rfl⟩ [0] (cs := [obC q qn qt qs qH qx cI cS ad o]) rfl (by decide) (fun u => [obC q qn qt qs qH qx cI cS ad u]) (fun _ => rfl) (fun _ => rfl) rfl hl.1 rfl (Nat.le_of_ble_eq_true rfl) dL_told_119 ⟨Nat.le_of_ble_eq_true rfl, Nat.le_of_ble_eq_true rfl⟩ (st1 := fun _ => [.int (1 : Int32)]) (fun _ => rfl) (fun u => [obC q qn qt qs qH qx cI cS ad u]) (fun _ => rfl) (fun o ho H locs hP hD hS => ?_)
        obtain ⟨hab, hg⟩ := ho
        have hab : aob o = (A.1, A.2.1, A.2.2.1, [(107 : Int32), (nI ((48 + ((x / 1) % 8)))), (sgn (x / 1)), (nI ((49 + ((x / 1) % 9)))), (59 : Int32), (119 : Int32), (nI ((48 + (((x / 1) / 2) % 8)))), (59 : Int32), (116 : Int32), (nI ((49 + (((x / 1) / 3) % 9)))), (59 : Int32), (98 : Int32), (nI ((48 + (((x / 1) / 5) % 8)))), (nI ((48 + ((x / 1) % 3)))), (59 : Int32), (107 : Int32), (nI ((48 + ((x / 2) % 8)))), (sgn (x / 2)), (nI ((49 + ((x / 2) % 9)))), (59 : Int32), (119 : Int32), (nI ((48 + (((x / 2) / 2) % 8)))), (59 : Int32), (116 : Int32), (nI ((49 + (((x / 2) / 3) % 9)))), (59 : Int32), (98 : Int32)]) := hab
        refine lv_if_eq (tgt := 155) hx hb dL_told_122 (by decide) (fun c => absurd c (by decide)) (fun _ => ?_)
        refine lv_aload_n hx hb dL_told_125 rfl (lv_at hl 3 rfl) ?_
        refine lv_bipush (v := 48) hx hb dL_told_126 (by decide) ?_
        refine lv_iload hx hb dL_told_128 (lv_at hl 0 rfl) ?_
        refine lv_iconst (v := 5) hx hb dL_told_130 (by decide) ?_
        refine lv_idiv hx hb dL_told_131 (by decide) ?_
        refine W.eq (g2 := F0 m 132 ls [.int (nI (((x / 2) / 5))), .int (48 : Int32), .ref (q 0)]) (by rw [ndiv 5 (m := (5 : Int32)) rfl (by omega) (by decide) (by decide)]) ?_
        refine lv_bipush (v := 8) hx hb dL_told_132 (by decide) ?_
        refine nv_irem hx hb ((x / 2) / 5) 8 (by omega) (by omega) (by omega) dL_told_134 ?_
        refine nv_iadd hx hb 48 (((x / 2) / 5) % 8) dL_told_135 ?_
        refine lv_bipush (v := 48) hx hb dL_told_136 (by decide) ?_
        refine lv_iload hx hb dL_told_138 (lv_at hl 0 rfl) ?_
        refine lv_iconst (v := 3) hx hb dL_told_140 (by decide) ?_
        refine nv_irem hx hb (x / 2) 3 (by omega) (by omega) (by omega) dL_told_141 ?_
        refine nv_iadd hx hb 48 ((x / 2) % 3) dL_told_142 ?_
        refine lv_bipush (v := 59) hx hb dL_told_143 (by decide) ?_
        have hc := o_says l G cI cS cL ad mp q qn qt qs qH qx (o := o) hg (nI ((48 + (((x / 2) / 5) % 8)))) (nI ((48 + ((x / 2) % 3)))) (59 : Int32) (by rw [hab]; exact Nat.le_of_ble_eq_true rfl) (cd_ok (by omega) (by omega)) (cd_ok (by omega) (by omega)) (by decide)
        rw [hab] at hc
        refine co_callS (As := [.ref (q 0), .int (nI ((48 + (((x / 2) / 5) % 8)))), .int (nI ((48 + ((x / 2) % 3)))), .int (59 : Int32)]) (rest := []) hE hC X hP hD hS hA hc cpS_says aw_842 ⟨Nat.le_of_ble_eq_true rfl, Nat.le_of_ble_eq_true rfl⟩ [0] (cs := [obC q qn qt qs qH qx cI cS ad o]) rfl (by decide) (fun u => [obC q qn qt qs qH qx cI cS ad u]) (fun _ => rfl) (fun _ => rfl) rfl hl.1 rfl (Nat.le_of_ble_eq_true rfl) dL_told_145 ⟨Nat.le_of_ble_eq_true rfl, Nat.le_of_ble_eq_true rfl⟩ (st1 := fun _ => [.int (1 : Int32)]) (fun _ => rfl) (fun u => [obC q qn qt qs qH qx cI cS ad u]) (fun _ => rfl) (fun o ho H locs hP hD hS => ?_)
        obtain ⟨hab, hg⟩ := ho
        have hab : aob o = (A.1, A.2.1, A.2.2.1, [(107 : Int32), (nI ((48 + ((x / 1) % 8)))), (sgn (x / 1)), (nI ((49 + ((x / 1) % 9)))), (59 : Int32), (119 : Int32), (nI ((48 + (((x / 1) / 2) % 8)))), (59 : Int32), (116 : Int32), (nI ((49 + (((x / 1) / 3) % 9)))), (59 : Int32), (98 : Int32), (nI ((48 + (((x / 1) / 5) % 8)))), (nI ((48 + ((x / 1) % 3)))), (59 : Int32), (107 : Int32), (nI ((48 + ((x / 2) % 8)))), (sgn (x / 2)), (nI ((49 + ((x / 2) % 9)))), (59 : Int32), (119 : Int32), (nI ((48 + (((x / 2) / 2) % 8)))), (59 : Int32), (116 : Int32), (nI ((49 + (((x / 2) / 3) % 9)))), (59 : Int32), (98 : Int32), (nI ((48 + (((x / 2) / 5) % 8)))), (nI ((48 + ((x / 2) % 3)))), (59 : Int32)]) := hab
        refine lv_if_eq (tgt := 155) hx hb dL_told_148 (by decide) (fun c => absurd c (by decide)) (fun _ => ?_)
        refine lv_iconst (v := 1) hx hb dL_told_151 (by decide) ?_
        refine lv_goto (tgt := 156) hx hb dL_told_152 (by decide) ?_
        refine lv_istore_n (lv' := [(2, .int (1 : Int32)), (4, .int (nI ((x / 2)))), (3, .int (1 : Int32)), (0, .ref (q 0)), (1, .int (nI x))]) hx hb dL_told_156 rfl hl (by decide) rfl (fun ls hl => ?_)
        refine lv_iinc (v := (2 : Int32)) (k := 2) (lv' := [(3, .int (2 : Int32)), (2, .int (1 : Int32)), (4, .int (nI ((x / 2)))), (0, .ref (q 0)), (1, .int (nI x))]) hx hb dL_told_157 hl rfl rfl (by decide) rfl (fun ls hl => ?_)
        refine lv_goto (tgt := 15) hx hb dL_told_160 (by decide) ?_
        refine lv_iload_n hx hb dL_told_15 rfl (lv_at hl 0 rfl) ?_
        refine lv_iconst (v := 1) hx hb dL_told_16 (by decide) ?_
        refine lv_iload_n hx hb dL_told_17 rfl (lv_at hl 4 rfl) ?_
        refine lv_iconst (v := 3) hx hb dL_told_18 (by decide) ?_
        refine nv_irem hx hb x 3 (by omega) (by omega) (by omega) dL_told_19 ?_
        refine nv_iadd hx hb 1 (x % 3) dL_told_20 ?_
        refine nv_ge hx hb 2 (1 + (x % 3)) 163 (by omega) (by omega) dL_told_21 (by decide) (fun _ => ?_) (fun c => absurd (by omega) c)
        refine lv_iload_n hx hb dL_told_163 rfl (lv_at hl 1 rfl) ?_
        refine lv_if_eq (tgt := 218) hx hb dL_told_164 (by decide) (fun c => absurd c (by decide)) (fun _ => ?_)
        refine lv_aload_n hx hb dL_told_167 rfl (lv_at hl 3 rfl) ?_
        refine lv_bipush (v := 116) hx hb dL_told_168 (by decide) ?_
        have hc := oz_append l G cI cS cL ad mp q qn qt qs qH qx (o := o) hg (116 : Int32) (by decide) (by rw [hab]; exact nf_of (Nat.le_of_ble_eq_true rfl))
        rw [hab] at hc
        have ev := app_ok (A := (A.1, A.2.1, A.2.2.1, [(107 : Int32), (nI ((48 + ((x / 1) % 8)))), (sgn (x / 1)), (nI ((49 + ((x / 1) % 9)))), (59 : Int32), (119 : Int32), (nI ((48 + (((x / 1) / 2) % 8)))), (59 : Int32), (116 : Int32), (nI ((49 + (((x / 1) / 3) % 9)))), (59 : Int32), (98 : Int32), (nI ((48 + (((x / 1) / 5) % 8)))), (nI ((48 + ((x / 1) % 3)))), (59 : Int32), (107 : Int32), (nI ((48 + ((x / 2) % 8)))), (sgn (x / 2)), (nI ((49 + ((x / 2) % 9)))), (59 : Int32), (119 : Int32), (nI ((48 + (((x / 2) / 2) % 8)))), (59 : Int32), (116 : Int32), (nI ((49 + (((x / 2) / 3) % 9)))), (59 : Int32), (98 : Int32), (nI ((48 + (((x / 2) / 5) % 8)))), (nI ((48 + ((x / 2) % 3)))), (59 : Int32)])) (c := (116 : Int32)) (by decide) (Nat.le_of_ble_eq_true rfl)
        rw [ev] at hc
        refine co_callH (As := [.ref (q 0), .int (116 : Int32)]) (rest := []) hE hC X hP hD hS hA hc cpH_append aw_603 ⟨Nat.le_of_ble_eq_true rfl, Nat.le_of_ble_eq_true rfl⟩ [0] (cs := [obC q qn qt qs qH qx cI cS ad o]) rfl (by decide) (fun u => [obC q qn qt qs qH qx cI cS ad u]) (fun _ => rfl) (fun _ => rfl) rfl hl.1 rfl (Nat.le_of_ble_eq_true rfl) dL_told_170 ⟨Nat.le_of_ble_eq_true rfl, Nat.le_of_ble_eq_true rfl⟩ (st1 := fun _ => [.long ((nI (30 + 1)).toInt64)]) (fun _ => rfl) (fun u => [obC q qn qt qs qH qx cI cS ad u]) (fun _ => rfl) (fun o ho H locs hP hD hS => ?_)
        obtain ⟨hab, hg⟩ := ho
        have hab : aob o = (A.1, A.2.1, A.2.2.1, [(107 : Int32), (nI ((48 + ((x / 1) % 8)))), (sgn (x / 1)), (nI ((49 + ((x / 1) % 9)))), (59 : Int32), (119 : Int32), (nI ((48 + (((x / 1) / 2) % 8)))), (59 : Int32), (116 : Int32), (nI ((49 + (((x / 1) / 3) % 9)))), (59 : Int32), (98 : Int32), (nI ((48 + (((x / 1) / 5) % 8)))), (nI ((48 + ((x / 1) % 3)))), (59 : Int32), (107 : Int32), (nI ((48 + ((x / 2) % 8)))), (sgn (x / 2)), (nI ((49 + ((x / 2) % 9)))), (59 : Int32), (119 : Int32), (nI ((48 + (((x / 2) / 2) % 8)))), (59 : Int32), (116 : Int32), (nI ((49 + (((x / 2) / 3) % 9)))), (59 : Int32), (98 : Int32), (nI ((48 + (((x / 2) / 5) % 8)))), (nI ((48 + ((x / 2) % 3)))), (59 : Int32), (116 : Int32)]) := hab
        refine lv_lconst (v := 0) hx hb dL_told_173 (by decide) ?_
        refine W.lcmp hx hb dL_told_174 ?_
        refine lv_if_le (tgt := 218) hx hb dL_told_175 (by decide) (fun c => absurd c (lg_pos (by decide))) (fun _ => ?_)
        refine lv_aload_n hx hb dL_told_178 rfl (lv_at hl 3 rfl) ?_
        refine lv_bipush (v := 49) hx hb dL_told_179 (by decide) ?_
        refine lv_iload_n hx hb dL_told_181 rfl (lv_at hl 4 rfl) ?_
        refine lv_bipush (v := 9) hx hb dL_told_182 (by decide) ?_
        refine nv_irem hx hb x 9 (by omega) (by omega) (by omega) dL_told_184 ?_
        refine nv_iadd hx hb 49 (x % 9) dL_told_185 ?_
        have hc := oz_append l G cI cS cL ad mp q qn qt qs qH qx (o := o) hg (nI ((49 + (x % 9)))) (cd_ok (by omega) (by omega)) (by rw [hab]; exact nf_of (Nat.le_of_ble_eq_true rfl))
        rw [hab] at hc
        have ev := app_ok (A := (A.1, A.2.1, A.2.2.1, [(107 : Int32), (nI ((48 + ((x / 1) % 8)))), (sgn (x / 1)), (nI ((49 + ((x / 1) % 9)))), (59 : Int32), (119 : Int32), (nI ((48 + (((x / 1) / 2) % 8)))), (59 : Int32), (116 : Int32), (nI ((49 + (((x / 1) / 3) % 9)))), (59 : Int32), (98 : Int32), (nI ((48 + (((x / 1) / 5) % 8)))), (nI ((48 + ((x / 1) % 3)))), (59 : Int32), (107 : Int32), (nI ((48 + ((x / 2) % 8)))), (sgn (x / 2)), (nI ((49 + ((x / 2) % 9)))), (59 : Int32), (119 : Int32), (nI ((48 + (((x / 2) / 2) % 8)))), (59 : Int32), (116 : Int32), (nI ((49 + (((x / 2) / 3) % 9)))), (59 : Int32), (98 : Int32), (nI ((48 + (((x / 2) / 5) % 8)))), (nI ((48 + ((x / 2) % 3)))), (59 : Int32), (116 : Int32)])) (c := (nI ((49 + (x % 9))))) (cd_ok (by omega) (by omega)) (Nat.le_of_ble_eq_true rfl)
        rw [ev] at hc
        refine co_callH (As := [.ref (q 0), .int (nI ((49 + (x % 9))))]) (rest := []) hE hC X hP hD hS hA hc cpH_append aw_603 ⟨Nat.le_of_ble_eq_true rfl, Nat.le_of_ble_eq_true rfl⟩ [0] (cs := [obC q qn qt qs qH qx cI cS ad o]) rfl (by decide) (fun u => [obC q qn qt qs qH qx cI cS ad u]) (fun _ => rfl) (fun _ => rfl) rfl hl.1 rfl (Nat.le_of_ble_eq_true rfl) dL_told_186 ⟨Nat.le_of_ble_eq_true rfl, Nat.le_of_ble_eq_true rfl⟩ (st1 := fun _ => [.long ((nI (31 + 1)).toInt64)]) (fun _ => rfl) (fun u => [obC q qn qt qs qH qx cI cS ad u]) (fun _ => rfl) (fun o ho H locs hP hD hS => ?_)
        obtain ⟨hab, hg⟩ := ho
        have hab : aob o = (A.1, A.2.1, A.2.2.1, [(107 : Int32), (nI ((48 + ((x / 1) % 8)))), (sgn (x / 1)), (nI ((49 + ((x / 1) % 9)))), (59 : Int32), (119 : Int32), (nI ((48 + (((x / 1) / 2) % 8)))), (59 : Int32), (116 : Int32), (nI ((49 + (((x / 1) / 3) % 9)))), (59 : Int32), (98 : Int32), (nI ((48 + (((x / 1) / 5) % 8)))), (nI ((48 + ((x / 1) % 3)))), (59 : Int32), (107 : Int32), (nI ((48 + ((x / 2) % 8)))), (sgn (x / 2)), (nI ((49 + ((x / 2) % 9)))), (59 : Int32), (119 : Int32), (nI ((48 + (((x / 2) / 2) % 8)))), (59 : Int32), (116 : Int32), (nI ((49 + (((x / 2) / 3) % 9)))), (59 : Int32), (98 : Int32), (nI ((48 + (((x / 2) / 5) % 8)))), (nI ((48 + ((x / 2) % 3)))), (59 : Int32), (116 : Int32), (nI ((49 + (x % 9))))]) := hab
        refine lv_lconst (v := 0) hx hb dL_told_189 (by decide) ?_
        refine W.lcmp hx hb dL_told_190 ?_
        refine lv_if_le (tgt := 218) hx hb dL_told_191 (by decide) (fun c => absurd c (lg_pos (by decide))) (fun _ => ?_)
        have et : textOf x = [(107 : Int32), (nI ((48 + ((x / 1) % 8)))), (sgn (x / 1)), (nI ((49 + ((x / 1) % 9)))), (59 : Int32), (119 : Int32), (nI ((48 + (((x / 1) / 2) % 8)))), (59 : Int32), (116 : Int32), (nI ((49 + (((x / 1) / 3) % 9)))), (59 : Int32), (98 : Int32), (nI ((48 + (((x / 1) / 5) % 8)))), (nI ((48 + ((x / 1) % 3)))), (59 : Int32), (107 : Int32), (nI ((48 + ((x / 2) % 8)))), (sgn (x / 2)), (nI ((49 + ((x / 2) % 9)))), (59 : Int32), (119 : Int32), (nI ((48 + (((x / 2) / 2) % 8)))), (59 : Int32), (116 : Int32), (nI ((49 + (((x / 2) / 3) % 9)))), (59 : Int32), (98 : Int32), (nI ((48 + (((x / 2) / 5) % 8)))), (nI ((48 + ((x / 2) % 3)))), (59 : Int32), (116 : Int32), (nI ((49 + (x % 9))))] := by
          unfold textOf
          rw [if_neg (by omega), if_pos h3]
          rfl
        have hab : aob o = (A.1, A.2.1, A.2.2.1, textOf x) := by rw [et]; exact hab
        refine lv_aload_n hx hb dL_told_194 rfl (lv_at hl 3 rfl) ?_
        have hc := o5_firstError l G cI cS cL ad mp q qn qt qs qH qx (o := o) hg
        rw [hab] at hc
        refine co_callV (As := []) (rest := []) hE hC X hP hD hS hA hc cp_X5_firstError aw_761 ⟨Nat.le_of_ble_eq_true rfl, Nat.le_of_ble_eq_true rfl⟩ [0] (cs := [obC q qn qt qs qH qx cI cS ad o]) rfl (by decide) (fun u => [obC q qn qt qs qH qx cI cS ad u]) (fun _ => rfl) (fun _ => rfl) 3 rfl rfl (q0 := 0) rfl rfl hl.1 rfl (Nat.le_of_ble_eq_true rfl) dL_told_195 ⟨Nat.le_of_ble_eq_true rfl, Nat.le_of_ble_eq_true rfl⟩ (st1 := fun _ => [.int (firstV (A.1, A.2.1, A.2.2.1, textOf x))]) (fun _ => rfl) (fun u => [obC q qn qt qs qH qx cI cS ad u]) (fun _ => rfl) (fun o ho H locs hP hD hS => ?_)
        obtain ⟨hab, hg⟩ := ho
        refine lv_iconst (v := 2) hx hb dL_told_198 (by decide) ?_
        refine lv_bipush (v := 15) hx hb dL_told_199 (by decide) ?_
        refine lv_iconst (v := 1) hx hb dL_told_201 (by decide) ?_
        refine lv_iload_n hx hb dL_told_202 rfl (lv_at hl 4 rfl) ?_
        refine lv_iconst (v := 3) hx hb dL_told_203 (by decide) ?_
        refine nv_irem hx hb x 3 (by omega) (by omega) (by omega) dL_told_204 ?_
        refine nv_iadd hx hb 1 (x % 3) dL_told_205 ?_
        refine nv_imul hx hb 15 (1 + (x % 3)) dL_told_206 ?_
        refine nv_iadd hx hb 2 (15 * (1 + (x % 3))) dL_told_207 ?_
        refine iv_ne hx hb 218 dL_told_208 (by decide) (fun cE => ?_) (fun cE => ?_)
        · refine lv_ldc2 hx hb hown (hw _ aw_671) dL_told_218 ?_
          have ea : toldA A x = (-1, (A.1, A.2.1, A.2.2.1, textOf x)) := if_neg cE
          refine W.widen (k := 1) (n := 6) (Nat.le_of_ble_eq_true rfl) (Nat.le_of_ble_eq_true rfl) ?_
          rw [← hQQ]
          exact W.lret hx hb hr (ct_endO o ⟨by rw [ea]; exact hab, hg⟩ (by show _ = some (Value.long (toldA A x).1); rw [ea]) hP hD hS) hS.2.2 dL_told_221
        · refine lv_aload_n hx hb dL_told_211 rfl (lv_at hl 3 rfl) ?_
          have hc := o_obey l hlt G cI cS cL ad mp q qn qt qs qH qx (o := o) hg
          rw [hab] at hc
          refine co_callH (As := [.ref (q 0)]) (rest := []) hE hC X hP hD hS hA hc cpH_obey aw_845 ⟨Nat.le_of_ble_eq_true rfl, Nat.le_of_ble_eq_true rfl⟩ [0] (cs := [obC q qn qt qs qH qx cI cS ad o]) rfl (by decide) (fun u => [obC q qn qt qs qH qx cI cS ad u]) (fun _ => rfl) (fun _ => rfl) rfl hl.1 rfl (Nat.le_of_ble_eq_true rfl) dL_told_212 ⟨Nat.le_of_ble_eq_true rfl, Nat.le_of_ble_eq_true rfl⟩ (st1 := fun _ => [.long ((obeyA (A.1, A.2.1, A.2.2.1, textOf x)).1)]) (fun _ => rfl) (fun u => [obC q qn qt qs qH qx cI cS ad u]) (fun _ => rfl) (fun o ho H locs hP hD hS => ?_)
          obtain ⟨hab, hg⟩ := ho
          refine lv_goto (tgt := 221) hx hb dL_told_215 (by decide) ?_
          have ea : toldA A x = obeyA (A.1, A.2.1, A.2.2.1, textOf x) := if_pos cE
          refine W.widen (k := 1) (n := 6) (Nat.le_of_ble_eq_true rfl) (Nat.le_of_ble_eq_true rfl) ?_
          rw [← hQQ]
          exact W.lret hx hb hr (ct_endO o ⟨by rw [ea]; exact hab, hg⟩ (by show _ = some (Value.long (toldA A x).1); rw [ea]) hP hD hS) hS.2.2 dL_told_221
      refine iv_ifne hx hb 56 dL_told_48 (by decide) (fun c => ?_) (fun c => ?_)
      · refine lv_bipush (v := 43) hx hb dL_told_56 (by decide) ?_
        rw [show (43 : Int32) = sgn (x / 2) from by unfold sgn; rw [if_neg (fun q => c (by rw [q]; rfl))]]
        exact mg1
      · refine lv_bipush (v := 45) hx hb dL_told_51 (by decide) ?_
        refine lv_goto (tgt := 58) hx hb dL_told_53 (by decide) ?_
        rw [show (45 : Int32) = sgn (x / 2) from by unfold sgn; rw [if_pos ((nI_eq (by omega) (by omega)).mp (c.trans nI_0.symm))]]
        exact mg1
    refine iv_ifne hx hb 56 dL_told_48 (by decide) (fun c => ?_) (fun c => ?_)
    · refine lv_bipush (v := 43) hx hb dL_told_56 (by decide) ?_
      rw [show (43 : Int32) = sgn (x / 1) from by unfold sgn; rw [if_neg (fun q => c (by rw [q]; rfl))]]
      exact mg0
    · refine lv_bipush (v := 45) hx hb dL_told_51 (by decide) ?_
      refine lv_goto (tgt := 58) hx hb dL_told_53 (by decide) ?_
      rw [show (45 : Int32) = sgn (x / 1) from by unfold sgn; rw [if_pos ((nI_eq (by omega) (by omega)).mp (c.trans nI_0.symm))]]
      exact mg0
  · refine lv_iconst (v := 0) hx hb dL_told_13 (by decide) ?_
    refine lv_istore_n (lv' := [(3, .int (0 : Int32)), (2, .int (1 : Int32)), (0, .ref (q 0)), (1, .int (nI x))]) hx hb dL_told_14 rfl hl (by decide) rfl (fun ls hl => ?_)
    refine lv_iload_n hx hb dL_told_15 rfl (lv_at hl 0 rfl) ?_
    refine lv_iconst (v := 1) hx hb dL_told_16 (by decide) ?_
    refine lv_iload_n hx hb dL_told_17 rfl (lv_at hl 3 rfl) ?_
    refine lv_iconst (v := 3) hx hb dL_told_18 (by decide) ?_
    refine nv_irem hx hb x 3 (by omega) (by omega) (by omega) dL_told_19 ?_
    refine nv_iadd hx hb 1 (x % 3) dL_told_20 ?_
    refine nv_ge hx hb 0 (1 + (x % 3)) 163 (by omega) (by omega) dL_told_21 (by decide) (fun c => absurd c (by omega)) (fun _ => ?_)
    refine lv_iload_n hx hb dL_told_24 rfl (lv_at hl 1 rfl) ?_
    refine lv_if_eq (tgt := 163) hx hb dL_told_25 (by decide) (fun c => absurd c (by decide)) (fun _ => ?_)
    refine lv_iload_n hx hb dL_told_28 rfl (lv_at hl 3 rfl) ?_
    refine lv_iload_n hx hb dL_told_29 rfl (lv_at hl 0 rfl) ?_
    refine lv_ishr hx hb dL_told_30 ?_
    refine lv_istore (lv' := [(4, .int ((nI x) >>> ((0 : Int32) &&& 31))), (3, .int (0 : Int32)), (2, .int (1 : Int32)), (0, .ref (q 0)), (1, .int (nI x))]) hx hb dL_told_31 hl (by decide) rfl (fun ls hl => ?_)
    have hl : lv_has ls 5 [(4, .int (nI ((x / 1)))), (3, .int (0 : Int32)), (2, .int (1 : Int32)), (0, .ref (q 0)), (1, .int (nI x))] := by rw [show nI (x / 1) = (nI x) >>> ((0 : Int32) &&& 31) from (shr_n hx31 0 (by decide)).symm]; exact hl
    have hy0 : x / 1 < 2 ^ 31 := by omega
    refine lv_aload_n hx hb dL_told_33 rfl (lv_at hl 3 rfl) ?_
    refine lv_bipush (v := 107) hx hb dL_told_34 (by decide) ?_
    refine lv_bipush (v := 48) hx hb dL_told_36 (by decide) ?_
    refine lv_iload hx hb dL_told_38 (lv_at hl 0 rfl) ?_
    refine lv_bipush (v := 8) hx hb dL_told_40 (by decide) ?_
    refine nv_irem hx hb (x / 1) 8 (by omega) (by omega) (by omega) dL_told_42 ?_
    refine nv_iadd hx hb 48 ((x / 1) % 8) dL_told_43 ?_
    refine lv_iload hx hb dL_told_44 (lv_at hl 0 rfl) ?_
    refine lv_iconst (v := 3) hx hb dL_told_46 (by decide) ?_
    refine nv_irem hx hb (x / 1) 3 (by omega) (by omega) (by omega) dL_told_47 ?_
    have mg0 : W p l e ({ frames := 8, cells := 1, slots := 6, locals := 181 } : Room) s m args below meth c H locs 0 0 QQ (F0 m 58 ls [.int (sgn (x / 1)), .int (nI ((48 + ((x / 1) % 8)))), .int (107 : Int32), .ref (q 0)]) := by
      have hc := o_says l G cI cS cL ad mp q qn qt qs qH qx (o := o) hg (107 : Int32) (nI ((48 + ((x / 1) % 8)))) (sgn (x / 1)) (by rw [hab]; exact Nat.le_of_ble_eq_true rfl) (by decide) (cd_ok (by omega) (by omega)) (sgn_ok _)
      rw [hab] at hc
      refine co_callS (As := [.ref (q 0), .int (107 : Int32), .int (nI ((48 + ((x / 1) % 8)))), .int (sgn (x / 1))]) (rest := []) hE hC X hP hD hS hA hc cpS_says aw_842 ⟨Nat.le_of_ble_eq_true rfl, Nat.le_of_ble_eq_true rfl⟩ [0] (cs := [obC q qn qt qs qH qx cI cS ad o]) rfl (by decide) (fun u => [obC q qn qt qs qH qx cI cS ad u]) (fun _ => rfl) (fun _ => rfl) rfl hl.1 rfl (Nat.le_of_ble_eq_true rfl) dL_told_58 ⟨Nat.le_of_ble_eq_true rfl, Nat.le_of_ble_eq_true rfl⟩ (st1 := fun _ => [.int (1 : Int32)]) (fun _ => rfl) (fun u => [obC q qn qt qs qH qx cI cS ad u]) (fun _ => rfl) (fun o ho H locs hP hD hS => ?_)
      obtain ⟨hab, hg⟩ := ho
      have hab : aob o = (A.1, A.2.1, A.2.2.1, [(107 : Int32), (nI ((48 + ((x / 1) % 8)))), (sgn (x / 1))]) := hab
      refine lv_if_eq (tgt := 155) hx hb dL_told_61 (by decide) (fun c => absurd c (by decide)) (fun _ => ?_)
      refine lv_aload_n hx hb dL_told_64 rfl (lv_at hl 3 rfl) ?_
      refine lv_bipush (v := 49) hx hb dL_told_65 (by decide) ?_
      refine lv_iload hx hb dL_told_67 (lv_at hl 0 rfl) ?_
      refine lv_bipush (v := 9) hx hb dL_told_69 (by decide) ?_
      refine nv_irem hx hb (x / 1) 9 (by omega) (by omega) (by omega) dL_told_71 ?_
      refine nv_iadd hx hb 49 ((x / 1) % 9) dL_told_72 ?_
      refine lv_bipush (v := 59) hx hb dL_told_73 (by decide) ?_
      refine lv_bipush (v := 119) hx hb dL_told_75 (by decide) ?_
      have hc := o_says l G cI cS cL ad mp q qn qt qs qH qx (o := o) hg (nI ((49 + ((x / 1) % 9)))) (59 : Int32) (119 : Int32) (by rw [hab]; exact Nat.le_of_ble_eq_true rfl) (cd_ok (by omega) (by omega)) (by decide) (by decide)
      rw [hab] at hc
      refine co_callS (As := [.ref (q 0), .int (nI ((49 + ((x / 1) % 9)))), .int (59 : Int32), .int (119 : Int32)]) (rest := []) hE hC X hP hD hS hA hc cpS_says aw_842 ⟨Nat.le_of_ble_eq_true rfl, Nat.le_of_ble_eq_true rfl⟩ [0] (cs := [obC q qn qt qs qH qx cI cS ad o]) rfl (by decide) (fun u => [obC q qn qt qs qH qx cI cS ad u]) (fun _ => rfl) (fun _ => rfl) rfl hl.1 rfl (Nat.le_of_ble_eq_true rfl) dL_told_77 ⟨Nat.le_of_ble_eq_true rfl, Nat.le_of_ble_eq_true rfl⟩ (st1 := fun _ => [.int (1 : Int32)]) (fun _ => rfl) (fun u => [obC q qn qt qs qH qx cI cS ad u]) (fun _ => rfl) (fun o ho H locs hP hD hS => ?_)
      obtain ⟨hab, hg⟩ := ho
      have hab : aob o = (A.1, A.2.1, A.2.2.1, [(107 : Int32), (nI ((48 + ((x / 1) % 8)))), (sgn (x / 1)), (nI ((49 + ((x / 1) % 9)))), (59 : Int32), (119 : Int32)]) := hab
      refine lv_if_eq (tgt := 155) hx hb dL_told_80 (by decide) (fun c => absurd c (by decide)) (fun _ => ?_)
      refine lv_aload_n hx hb dL_told_83 rfl (lv_at hl 3 rfl) ?_
      refine lv_bipush (v := 48) hx hb dL_told_84 (by decide) ?_
      refine lv_iload hx hb dL_told_86 (lv_at hl 0 rfl) ?_
      refine lv_iconst (v := 2) hx hb dL_told_88 (by decide) ?_
      refine lv_idiv hx hb dL_told_89 (by decide) ?_
      refine W.eq (g2 := F0 m 90 ls [.int (nI (((x / 1) / 2))), .int (48 : Int32), .ref (q 0)]) (by rw [ndiv 2 (m := (2 : Int32)) rfl (by omega) (by decide) (by decide)]) ?_
      refine lv_bipush (v := 8) hx hb dL_told_90 (by decide) ?_
      refine nv_irem hx hb ((x / 1) / 2) 8 (by omega) (by omega) (by omega) dL_told_92 ?_
      refine nv_iadd hx hb 48 (((x / 1) / 2) % 8) dL_told_93 ?_
      refine lv_bipush (v := 59) hx hb dL_told_94 (by decide) ?_
      refine lv_bipush (v := 116) hx hb dL_told_96 (by decide) ?_
      have hc := o_says l G cI cS cL ad mp q qn qt qs qH qx (o := o) hg (nI ((48 + (((x / 1) / 2) % 8)))) (59 : Int32) (116 : Int32) (by rw [hab]; exact Nat.le_of_ble_eq_true rfl) (cd_ok (by omega) (by omega)) (by decide) (by decide)
      rw [hab] at hc
      refine co_callS (As := [.ref (q 0), .int (nI ((48 + (((x / 1) / 2) % 8)))), .int (59 : Int32), .int (116 : Int32)]) (rest := []) hE hC X hP hD hS hA hc cpS_says aw_842 ⟨Nat.le_of_ble_eq_true rfl, Nat.le_of_ble_eq_true rfl⟩ [0] (cs := [obC q qn qt qs qH qx cI cS ad o]) rfl (by decide) (fun u => [obC q qn qt qs qH qx cI cS ad u]) (fun _ => rfl) (fun _ => rfl) rfl hl.1 rfl (Nat.le_of_ble_eq_true rfl) dL_told_98 ⟨Nat.le_of_ble_eq_true rfl, Nat.le_of_ble_eq_true rfl⟩ (st1 := fun _ => [.int (1 : Int32)]) (fun _ => rfl) (fun u => [obC q qn qt qs qH qx cI cS ad u]) (fun _ => rfl) (fun o ho H locs hP hD hS => ?_)
      obtain ⟨hab, hg⟩ := ho
      have hab : aob o = (A.1, A.2.1, A.2.2.1, [(107 : Int32), (nI ((48 + ((x / 1) % 8)))), (sgn (x / 1)), (nI ((49 + ((x / 1) % 9)))), (59 : Int32), (119 : Int32), (nI ((48 + (((x / 1) / 2) % 8)))), (59 : Int32), (116 : Int32)]) := hab
      refine lv_if_eq (tgt := 155) hx hb dL_told_101 (by decide) (fun c => absurd c (by decide)) (fun _ => ?_)
      refine lv_aload_n hx hb dL_told_104 rfl (lv_at hl 3 rfl) ?_
      refine lv_bipush (v := 49) hx hb dL_told_105 (by decide) ?_
      refine lv_iload hx hb dL_told_107 (lv_at hl 0 rfl) ?_
      refine lv_iconst (v := 3) hx hb dL_told_109 (by decide) ?_
      refine lv_idiv hx hb dL_told_110 (by decide) ?_
      refine W.eq (g2 := F0 m 111 ls [.int (nI (((x / 1) / 3))), .int (49 : Int32), .ref (q 0)]) (by rw [ndiv 3 (m := (3 : Int32)) rfl (by omega) (by decide) (by decide)]) ?_
      refine lv_bipush (v := 9) hx hb dL_told_111 (by decide) ?_
      refine nv_irem hx hb ((x / 1) / 3) 9 (by omega) (by omega) (by omega) dL_told_113 ?_
      refine nv_iadd hx hb 49 (((x / 1) / 3) % 9) dL_told_114 ?_
      refine lv_bipush (v := 59) hx hb dL_told_115 (by decide) ?_
      refine lv_bipush (v := 98) hx hb dL_told_117 (by decide) ?_
      have hc := o_says l G cI cS cL ad mp q qn qt qs qH qx (o := o) hg (nI ((49 + (((x / 1) / 3) % 9)))) (59 : Int32) (98 : Int32) (by rw [hab]; exact Nat.le_of_ble_eq_true rfl) (cd_ok (by omega) (by omega)) (by decide) (by decide)
      rw [hab] at hc
      refine co_callS (As := [.ref (q 0), .int (nI ((49 + (((x / 1) / 3) % 9)))), .int (59 : Int32), .int (98 : Int32)]) (rest := []) hE hC X hP hD hS hA hc cpS_says aw_842 ⟨Nat.le_of_ble_eq_true rfl, Nat.le_of_ble_eq_true rfl⟩ [0] (cs := [obC q qn qt qs qH qx cI cS ad o]) rfl (by decide) (fun u => [obC q qn qt qs qH qx cI cS ad u]) (fun _ => rfl) (fun _ => rfl) rfl hl.1 rfl (Nat.le_of_ble_eq_true rfl) dL_told_119 ⟨Nat.le_of_ble_eq_true rfl, Nat.le_of_ble_eq_true rfl⟩ (st1 := fun _ => [.int (1 : Int32)]) (fun _ => rfl) (fun u => [obC q qn qt qs qH qx cI cS ad u]) (fun _ => rfl) (fun o ho H locs hP hD hS => ?_)
      obtain ⟨hab, hg⟩ := ho
      have hab : aob o = (A.1, A.2.1, A.2.2.1, [(107 : Int32), (nI ((48 + ((x / 1) % 8)))), (sgn (x / 1)), (nI ((49 + ((x / 1) % 9)))), (59 : Int32), (119 : Int32), (nI ((48 + (((x / 1) / 2) % 8)))), (59 : Int32), (116 : Int32), (nI ((49 + (((x / 1) / 3) % 9)))), (59 : Int32), (98 : Int32)]) := hab
      refine lv_if_eq (tgt := 155) hx hb dL_told_122 (by decide) (fun c => absurd c (by decide)) (fun _ => ?_)
      refine lv_aload_n hx hb dL_told_125 rfl (lv_at hl 3 rfl) ?_
      refine lv_bipush (v := 48) hx hb dL_told_126 (by decide) ?_
      refine lv_iload hx hb dL_told_128 (lv_at hl 0 rfl) ?_
      refine lv_iconst (v := 5) hx hb dL_told_130 (by decide) ?_
      refine lv_idiv hx hb dL_told_131 (by decide) ?_
      refine W.eq (g2 := F0 m 132 ls [.int (nI (((x / 1) / 5))), .int (48 : Int32), .ref (q 0)]) (by rw [ndiv 5 (m := (5 : Int32)) rfl (by omega) (by decide) (by decide)]) ?_
      refine lv_bipush (v := 8) hx hb dL_told_132 (by decide) ?_
      refine nv_irem hx hb ((x / 1) / 5) 8 (by omega) (by omega) (by omega) dL_told_134 ?_
      refine nv_iadd hx hb 48 (((x / 1) / 5) % 8) dL_told_135 ?_
      refine lv_bipush (v := 48) hx hb dL_told_136 (by decide) ?_
      refine lv_iload hx hb dL_told_138 (lv_at hl 0 rfl) ?_
      refine lv_iconst (v := 3) hx hb dL_told_140 (by decide) ?_
      refine nv_irem hx hb (x / 1) 3 (by omega) (by omega) (by omega) dL_told_141 ?_
      refine nv_iadd hx hb 48 ((x / 1) % 3) dL_told_142 ?_
      refine lv_bipush (v := 59) hx hb dL_told_143 (by decide) ?_
      have hc := o_says l G cI cS cL ad mp q qn qt qs qH qx (o := o) hg (nI ((48 + (((x / 1) / 5) % 8)))) (nI ((48 + ((x / 1) % 3)))) (59 : Int32) (by rw [hab]; exact Nat.le_of_ble_eq_true rfl) (cd_ok (by omega) (by omega)) (cd_ok (by omega) (by omega)) (by decide)
      rw [hab] at hc
      refine co_callS (As := [.ref (q 0), .int (nI ((48 + (((x / 1) / 5) % 8)))), .int (nI ((48 + ((x / 1) % 3)))), .int (59 : Int32)]) (rest := []) hE hC X hP hD hS hA hc cpS_says aw_842 ⟨Nat.le_of_ble_eq_true rfl, Nat.le_of_ble_eq_true rfl⟩ [0] (cs := [obC q qn qt qs qH qx cI cS ad o]) rfl (by decide) (fun u => [obC q qn qt qs qH qx cI cS ad u]) (fun _ => rfl) (fun _ => rfl) rfl hl.1 rfl (Nat.le_of_ble_eq_true rfl) dL_told_145 ⟨Nat.le_of_ble_eq_true rfl, Nat.le_of_ble_eq_true rfl⟩ (st1 := fun _ => [.int (1 : Int32)]) (fun _ => rfl) (fun u => [obC q qn qt qs qH qx cI cS ad u]) (fun _ => rfl) (fun o ho H locs hP hD hS => ?_)
      obtain ⟨hab, hg⟩ := ho
      have hab : aob o = (A.1, A.2.1, A.2.2.1, [(107 : Int32), (nI ((48 + ((x / 1) % 8)))), (sgn (x / 1)), (nI ((49 + ((x / 1) % 9)))), (59 : Int32), (119 : Int32), (nI ((48 + (((x / 1) / 2) % 8)))), (59 : Int32), (116 : Int32), (nI ((49 + (((x / 1) / 3) % 9)))), (59 : Int32), (98 : Int32), (nI ((48 + (((x / 1) / 5) % 8)))), (nI ((48 + ((x / 1) % 3)))), (59 : Int32)]) := hab
      refine lv_if_eq (tgt := 155) hx hb dL_told_148 (by decide) (fun c => absurd c (by decide)) (fun _ => ?_)
      refine lv_iconst (v := 1) hx hb dL_told_151 (by decide) ?_
      refine lv_goto (tgt := 156) hx hb dL_told_152 (by decide) ?_
      refine lv_istore_n (lv' := [(2, .int (1 : Int32)), (4, .int (nI ((x / 1)))), (3, .int (0 : Int32)), (0, .ref (q 0)), (1, .int (nI x))]) hx hb dL_told_156 rfl hl (by decide) rfl (fun ls hl => ?_)
      refine lv_iinc (v := (1 : Int32)) (k := 2) (lv' := [(3, .int (1 : Int32)), (2, .int (1 : Int32)), (4, .int (nI ((x / 1)))), (0, .ref (q 0)), (1, .int (nI x))]) hx hb dL_told_157 hl rfl rfl (by decide) rfl (fun ls hl => ?_)
      refine lv_goto (tgt := 15) hx hb dL_told_160 (by decide) ?_
      refine lv_iload_n hx hb dL_told_15 rfl (lv_at hl 0 rfl) ?_
      refine lv_iconst (v := 1) hx hb dL_told_16 (by decide) ?_
      refine lv_iload_n hx hb dL_told_17 rfl (lv_at hl 4 rfl) ?_
      refine lv_iconst (v := 3) hx hb dL_told_18 (by decide) ?_
      refine nv_irem hx hb x 3 (by omega) (by omega) (by omega) dL_told_19 ?_
      refine nv_iadd hx hb 1 (x % 3) dL_told_20 ?_
      refine nv_ge hx hb 1 (1 + (x % 3)) 163 (by omega) (by omega) dL_told_21 (by decide) (fun c => absurd c (by omega)) (fun _ => ?_)
      refine lv_iload_n hx hb dL_told_24 rfl (lv_at hl 1 rfl) ?_
      refine lv_if_eq (tgt := 163) hx hb dL_told_25 (by decide) (fun c => absurd c (by decide)) (fun _ => ?_)
      refine lv_iload_n hx hb dL_told_28 rfl (lv_at hl 4 rfl) ?_
      refine lv_iload_n hx hb dL_told_29 rfl (lv_at hl 0 rfl) ?_
      refine lv_ishr hx hb dL_told_30 ?_
      refine lv_istore (lv' := [(4, .int ((nI x) >>> ((1 : Int32) &&& 31))), (3, .int (1 : Int32)), (2, .int (1 : Int32)), (0, .ref (q 0)), (1, .int (nI x))]) hx hb dL_told_31 hl (by decide) rfl (fun ls hl => ?_)
      have hl : lv_has ls 5 [(4, .int (nI ((x / 2)))), (3, .int (1 : Int32)), (2, .int (1 : Int32)), (0, .ref (q 0)), (1, .int (nI x))] := by rw [show nI (x / 2) = (nI x) >>> ((1 : Int32) &&& 31) from (shr_n hx31 1 (by decide)).symm]; exact hl
      have hy1 : x / 2 < 2 ^ 31 := by omega
      refine lv_aload_n hx hb dL_told_33 rfl (lv_at hl 3 rfl) ?_
      refine lv_bipush (v := 107) hx hb dL_told_34 (by decide) ?_
      refine lv_bipush (v := 48) hx hb dL_told_36 (by decide) ?_
      refine lv_iload hx hb dL_told_38 (lv_at hl 0 rfl) ?_
      refine lv_bipush (v := 8) hx hb dL_told_40 (by decide) ?_
      refine nv_irem hx hb (x / 2) 8 (by omega) (by omega) (by omega) dL_told_42 ?_
      refine nv_iadd hx hb 48 ((x / 2) % 8) dL_told_43 ?_
      refine lv_iload hx hb dL_told_44 (lv_at hl 0 rfl) ?_
      refine lv_iconst (v := 3) hx hb dL_told_46 (by decide) ?_
      refine nv_irem hx hb (x / 2) 3 (by omega) (by omega) (by omega) dL_told_47 ?_
      have mg1 : W p l e ({ frames := 8, cells := 1, slots := 6, locals := 181 } : Room) s m args below meth c H locs 0 0 QQ (F0 m 58 ls [.int (sgn (x / 2)), .int (nI ((48 + ((x / 2) % 8)))), .int (107 : Int32), .ref (q 0)]) := by
        have hc := o_says l G cI cS cL ad mp q qn qt qs qH qx (o := o) hg (107 : Int32) (nI ((48 + ((x / 2) % 8)))) (sgn (x / 2)) (by rw [hab]; exact Nat.le_of_ble_eq_true rfl) (by decide) (cd_ok (by omega) (by omega)) (sgn_ok _)
        rw [hab] at hc
        refine co_callS (As := [.ref (q 0), .int (107 : Int32), .int (nI ((48 + ((x / 2) % 8)))), .int (sgn (x / 2))]) (rest := []) hE hC X hP hD hS hA hc cpS_says aw_842 ⟨Nat.le_of_ble_eq_true rfl, Nat.le_of_ble_eq_true rfl⟩ [0] (cs := [obC q qn qt qs qH qx cI cS ad o]) rfl (by decide) (fun u => [obC q qn qt qs qH qx cI cS ad u]) (fun _ => rfl) (fun _ => rfl) rfl hl.1 rfl (Nat.le_of_ble_eq_true rfl) dL_told_58 ⟨Nat.le_of_ble_eq_true rfl, Nat.le_of_ble_eq_true rfl⟩ (st1 := fun _ => [.int (1 : Int32)]) (fun _ => rfl) (fun u => [obC q qn qt qs qH qx cI cS ad u]) (fun _ => rfl) (fun o ho H locs hP hD hS => ?_)
        obtain ⟨hab, hg⟩ := ho
        have hab : aob o = (A.1, A.2.1, A.2.2.1, [(107 : Int32), (nI ((48 + ((x / 1) % 8)))), (sgn (x / 1)), (nI ((49 + ((x / 1) % 9)))), (59 : Int32), (119 : Int32), (nI ((48 + (((x / 1) / 2) % 8)))), (59 : Int32), (116 : Int32), (nI ((49 + (((x / 1) / 3) % 9)))), (59 : Int32), (98 : Int32), (nI ((48 + (((x / 1) / 5) % 8)))), (nI ((48 + ((x / 1) % 3)))), (59 : Int32), (107 : Int32), (nI ((48 + ((x / 2) % 8)))), (sgn (x / 2))]) := hab
        refine lv_if_eq (tgt := 155) hx hb dL_told_61 (by decide) (fun c => absurd c (by decide)) (fun _ => ?_)
        refine lv_aload_n hx hb dL_told_64 rfl (lv_at hl 3 rfl) ?_
        refine lv_bipush (v := 49) hx hb dL_told_65 (by decide) ?_
        refine lv_iload hx hb dL_told_67 (lv_at hl 0 rfl) ?_
        refine lv_bipush (v := 9) hx hb dL_told_69 (by decide) ?_
        refine nv_irem hx hb (x / 2) 9 (by omega) (by omega) (by omega) dL_told_71 ?_
        refine nv_iadd hx hb 49 ((x / 2) % 9) dL_told_72 ?_
        refine lv_bipush (v := 59) hx hb dL_told_73 (by decide) ?_
        refine lv_bipush (v := 119) hx hb dL_told_75 (by decide) ?_
        have hc := o_says l G cI cS cL ad mp q qn qt qs qH qx (o := o) hg (nI ((49 + ((x / 2) % 9)))) (59 : Int32) (119 : Int32) (by rw [hab]; exact Nat.le_of_ble_eq_true rfl) (cd_ok (by omega) (by omega)) (by decide) (by decide)
        rw [hab] at hc
        refine co_callS (As := [.ref (q 0), .int (nI ((49 + ((x / 2) % 9)))), .int (59 : Int32), .int (119 : Int32)]) (rest := []) hE hC X hP hD hS hA hc cpS_says aw_842 ⟨Nat.le_of_ble_eq_true rfl, Nat.le_of_ble_eq_true rfl⟩ [0] (cs := [obC q qn qt qs qH qx cI cS ad o]) rfl (by decide) (fun u => [obC q qn qt qs qH qx cI cS ad u]) (fun _ => rfl) (fun _ => rfl) rfl hl.1 rfl (Nat.le_of_ble_eq_true rfl) dL_told_77 ⟨Nat.le_of_ble_eq_true rfl, Nat.le_of_ble_eq_true rfl⟩ (st1 := fun _ => [.int (1 : Int32)]) (fun _ => rfl) (fun u => [obC q qn qt qs qH qx cI cS ad u]) (fun _ => rfl) (fun o ho H locs hP hD hS => ?_)
        obtain ⟨hab, hg⟩ := ho
        have hab : aob o = (A.1, A.2.1, A.2.2.1, [(107 : Int32), (nI ((48 + ((x / 1) % 8)))), (sgn (x / 1)), (nI ((49 + ((x / 1) % 9)))), (59 : Int32), (119 : Int32), (nI ((48 + (((x / 1) / 2) % 8)))), (59 : Int32), (116 : Int32), (nI ((49 + (((x / 1) / 3) % 9)))), (59 : Int32), (98 : Int32), (nI ((48 + (((x / 1) / 5) % 8)))), (nI ((48 + ((x / 1) % 3)))), (59 : Int32), (107 : Int32), (nI ((48 + ((x / 2) % 8)))), (sgn (x / 2)), (nI ((49 + ((x / 2) % 9)))), (59 : Int32), (119 : Int32)]) := hab
        refine lv_if_eq (tgt := 155) hx hb dL_told_80 (by decide) (fun c => absurd c (by decide)) (fun _ => ?_)
        refine lv_aload_n hx hb dL_told_83 rfl (lv_at hl 3 rfl) ?_
        refine lv_bipush (v := 48) hx hb dL_told_84 (by decide) ?_
        refine lv_iload hx hb dL_told_86 (lv_at hl 0 rfl) ?_
        refine lv_iconst (v := 2) hx hb dL_told_88 (by decide) ?_
        refine lv_idiv hx hb dL_told_89 (by decide) ?_
        refine W.eq (g2 := F0 m 90 ls [.int (nI (((x / 2) / 2))), .int (48 : Int32), .ref (q 0)]) (by rw [ndiv 2 (m := (2 : Int32)) rfl (by omega) (by decide) (by decide)]) ?_
        refine lv_bipush (v := 8) hx hb dL_told_90 (by decide) ?_
        refine nv_irem hx hb ((x / 2) / 2) 8 (by omega) (by omega) (by omega) dL_told_92 ?_
        refine nv_iadd hx hb 48 (((x / 2) / 2) % 8) dL_told_93 ?_
        refine lv_bipush (v := 59) hx hb dL_told_94 (by decide) ?_
        refine lv_bipush (v := 116) hx hb dL_told_96 (by decide) ?_
        have hc := o_says l G cI cS cL ad mp q qn qt qs qH qx (o := o) hg (nI ((48 + (((x / 2) / 2) % 8)))) (59 : Int32) (116 : Int32) (by rw [hab]; exact Nat.le_of_ble_eq_true rfl) (cd_ok (by omega) (by omega)) (by decide) (by decide)
        rw [hab] at hc
        refine co_callS (As := [.ref (q 0), .int (nI ((48 + (((x / 2) / 2) % 8)))), .int (59 : Int32), .int (116 : Int32)]) (rest := []) hE hC X hP hD hS hA hc cpS_says aw_842 ⟨Nat.le_of_ble_eq_true rfl, Nat.le_of_ble_eq_true rfl⟩ [0] (cs := [obC q qn qt qs qH qx cI cS ad o]) rfl (by decide) (fun u => [obC q qn qt qs qH qx cI cS ad u]) (fun _ => rfl) (fun _ => rfl) rfl hl.1 rfl (Nat.le_of_ble_eq_true rfl) dL_told_98 ⟨Nat.le_of_ble_eq_true rfl, Nat.le_of_ble_eq_true rfl⟩ (st1 := fun _ => [.int (1 : Int32)]) (fun _ => rfl) (fun u => [obC q qn qt qs qH qx cI cS ad u]) (fun _ => rfl) (fun o ho H locs hP hD hS => ?_)
        obtain ⟨hab, hg⟩ := ho
        have hab : aob o = (A.1, A.2.1, A.2.2.1, [(107 : Int32), (nI ((48 + ((x / 1) % 8)))), (sgn (x / 1)), (nI ((49 + ((x / 1) % 9)))), (59 : Int32), (119 : Int32), (nI ((48 + (((x / 1) / 2) % 8)))), (59 : Int32), (116 : Int32), (nI ((49 + (((x / 1) / 3) % 9)))), (59 : Int32), (98 : Int32), (nI ((48 + (((x / 1) / 5) % 8)))), (nI ((48 + ((x / 1) % 3)))), (59 : Int32), (107 : Int32), (nI ((48 + ((x / 2) % 8)))), (sgn (x / 2)), (nI ((49 + ((x / 2) % 9)))), (59 : Int32), (119 : Int32), (nI ((48 + (((x / 2) / 2) % 8)))), (59 : Int32), (116 : Int32)]) := hab
        refine lv_if_eq (tgt := 155) hx hb dL_told_101 (by decide) (fun c => absurd c (by decide)) (fun _ => ?_)
        refine lv_aload_n hx hb dL_told_104 rfl (lv_at hl 3 rfl) ?_
        refine lv_bipush (v := 49) hx hb dL_told_105 (by decide) ?_
        refine lv_iload hx hb dL_told_107 (lv_at hl 0 rfl) ?_
        refine lv_iconst (v := 3) hx hb dL_told_109 (by decide) ?_
        refine lv_idiv hx hb dL_told_110 (by decide) ?_
        refine W.eq (g2 := F0 m 111 ls [.int (nI (((x / 2) / 3))), .int (49 : Int32), .ref (q 0)]) (by rw [ndiv 3 (m := (3 : Int32)) rfl (by omega) (by decide) (by decide)]) ?_
        refine lv_bipush (v := 9) hx hb dL_told_111 (by decide) ?_
        refine nv_irem hx hb ((x / 2) / 3) 9 (by omega) (by omega) (by omega) dL_told_113 ?_
        refine nv_iadd hx hb 49 (((x / 2) / 3) % 9) dL_told_114 ?_
        refine lv_bipush (v := 59) hx hb dL_told_115 (by decide) ?_
        refine lv_bipush (v := 98) hx hb dL_told_117 (by decide) ?_
        have hc := o_says l G cI cS cL ad mp q qn qt qs qH qx (o := o) hg (nI ((49 + (((x / 2) / 3) % 9)))) (59 : Int32) (98 : Int32) (by rw [hab]; exact Nat.le_of_ble_eq_true rfl) (cd_ok (by omega) (by omega)) (by decide) (by decide)
        rw [hab] at hc
        refine co_callS (As := [.ref (q 0), .int (nI ((49 + (((x / 2) / 3) % 9)))), .int (59 : Int32), .int (98 : Int32)]) (rest := []) hE hC X hP hD hS hA hc cpS_says aw_842 ⟨Nat.le_of_ble_eq_true rfl, Nat.le_of_ble_eq_true rfl⟩ [0] (cs := [obC q qn qt qs qH qx cI cS ad o]) rfl (by decide) (fun u => [obC q qn qt qs qH qx cI cS ad u]) (fun _ => rfl) (fun _ => rfl) rfl hl.1 rfl (Nat.le_of_ble_eq_true rfl) dL_told_119 ⟨Nat.le_of_ble_eq_true rfl, Nat.le_of_ble_eq_true rfl⟩ (st1 := fun _ => [.int (1 : Int32)]) (fun _ => rfl) (fun u => [obC q qn qt qs qH qx cI cS ad u]) (fun _ => rfl) (fun o ho H locs hP hD hS => ?_)
        obtain ⟨hab, hg⟩ := ho
        have hab : aob o = (A.1, A.2.1, A.2.2.1, [(107 : Int32), (nI ((48 + ((x / 1) % 8)))), (sgn (x / 1)), (nI ((49 + ((x / 1) % 9)))), (59 : Int32), (119 : Int32), (nI ((48 + (((x / 1) / 2) % 8)))), (59 : Int32), (116 : Int32), (nI ((49 + (((x / 1) / 3) % 9)))), (59 : Int32), (98 : Int32), (nI ((48 + (((x / 1) / 5) % 8)))), (nI ((48 + ((x / 1) % 3)))), (59 : Int32), (107 : Int32), (nI ((48 + ((x / 2) % 8)))), (sgn (x / 2)), (nI ((49 + ((x / 2) % 9)))), (59 : Int32), (119 : Int32), (nI ((48 + (((x / 2) / 2) % 8)))), (59 : Int32), (116 : Int32), (nI ((49 + (((x / 2) / 3) % 9)))), (59 : Int32), (98 : Int32)]) := hab
        refine lv_if_eq (tgt := 155) hx hb dL_told_122 (by decide) (fun c => absurd c (by decide)) (fun _ => ?_)
        refine lv_aload_n hx hb dL_told_125 rfl (lv_at hl 3 rfl) ?_
        refine lv_bipush (v := 48) hx hb dL_told_126 (by decide) ?_
        refine lv_iload hx hb dL_told_128 (lv_at hl 0 rfl) ?_
        refine lv_iconst (v := 5) hx hb dL_told_130 (by decide) ?_
        refine lv_idiv hx hb dL_told_131 (by decide) ?_
        refine W.eq (g2 := F0 m 132 ls [.int (nI (((x / 2) / 5))), .int (48 : Int32), .ref (q 0)]) (by rw [ndiv 5 (m := (5 : Int32)) rfl (by omega) (by decide) (by decide)]) ?_
        refine lv_bipush (v := 8) hx hb dL_told_132 (by decide) ?_
        refine nv_irem hx hb ((x / 2) / 5) 8 (by omega) (by omega) (by omega) dL_told_134 ?_
        refine nv_iadd hx hb 48 (((x / 2) / 5) % 8) dL_told_135 ?_
        refine lv_bipush (v := 48) hx hb dL_told_136 (by decide) ?_
        refine lv_iload hx hb dL_told_138 (lv_at hl 0 rfl) ?_
        refine lv_iconst (v := 3) hx hb dL_told_140 (by decide) ?_
        refine nv_irem hx hb (x / 2) 3 (by omega) (by omega) (by omega) dL_told_141 ?_
        refine nv_iadd hx hb 48 ((x / 2) % 3) dL_told_142 ?_
        refine lv_bipush (v := 59) hx hb dL_told_143 (by decide) ?_
        have hc := o_says l G cI cS cL ad mp q qn qt qs qH qx (o := o) hg (nI ((48 + (((x / 2) / 5) % 8)))) (nI ((48 + ((x / 2) % 3)))) (59 : Int32) (by rw [hab]; exact Nat.le_of_ble_eq_true rfl) (cd_ok (by omega) (by omega)) (cd_ok (by omega) (by omega)) (by decide)
        rw [hab] at hc
        refine co_callS (As := [.ref (q 0), .int (nI ((48 + (((x / 2) / 5) % 8)))), .int (nI ((48 + ((x / 2) % 3)))), .int (59 : Int32)]) (rest := []) hE hC X hP hD hS hA hc cpS_says aw_842 ⟨Nat.le_of_ble_eq_true rfl, Nat.le_of_ble_eq_true rfl⟩ [0] (cs := [obC q qn qt qs qH qx cI cS ad o]) rfl (by decide) (fun u => [obC q qn qt qs qH qx cI cS ad u]) (fun _ => rfl) (fun _ => rfl) rfl hl.1 rfl (Nat.le_of_ble_eq_true rfl) dL_told_145 ⟨Nat.le_of_ble_eq_true rfl, Nat.le_of_ble_eq_true rfl⟩ (st1 := fun _ => [.int (1 : Int32)]) (fun _ => rfl) (fun u => [obC q qn qt qs qH qx cI cS ad u]) (fun _ => rfl) (fun o ho H locs hP hD hS => ?_)
        obtain ⟨hab, hg⟩ := ho
        have hab : aob o = (A.1, A.2.1, A.2.2.1, [(107 : Int32), (nI ((48 + ((x / 1) % 8)))), (sgn (x / 1)), (nI ((49 + ((x / 1) % 9)))), (59 : Int32), (119 : Int32), (nI ((48 + (((x / 1) / 2) % 8)))), (59 : Int32), (116 : Int32), (nI ((49 + (((x / 1) / 3) % 9)))), (59 : Int32), (98 : Int32), (nI ((48 + (((x / 1) / 5) % 8)))), (nI ((48 + ((x / 1) % 3)))), (59 : Int32), (107 : Int32), (nI ((48 + ((x / 2) % 8)))), (sgn (x / 2)), (nI ((49 + ((x / 2) % 9)))), (59 : Int32), (119 : Int32), (nI ((48 + (((x / 2) / 2) % 8)))), (59 : Int32), (116 : Int32), (nI ((49 + (((x / 2) / 3) % 9)))), (59 : Int32), (98 : Int32), (nI ((48 + (((x / 2) / 5) % 8)))), (nI ((48 + ((x / 2) % 3)))), (59 : Int32)]) := hab
        refine lv_if_eq (tgt := 155) hx hb dL_told_148 (by decide) (fun c => absurd c (by decide)) (fun _ => ?_)
        refine lv_iconst (v := 1) hx hb dL_told_151 (by decide) ?_
        refine lv_goto (tgt := 156) hx hb dL_told_152 (by decide) ?_
        refine lv_istore_n (lv' := [(2, .int (1 : Int32)), (4, .int (nI ((x / 2)))), (3, .int (1 : Int32)), (0, .ref (q 0)), (1, .int (nI x))]) hx hb dL_told_156 rfl hl (by decide) rfl (fun ls hl => ?_)
        refine lv_iinc (v := (2 : Int32)) (k := 2) (lv' := [(3, .int (2 : Int32)), (2, .int (1 : Int32)), (4, .int (nI ((x / 2)))), (0, .ref (q 0)), (1, .int (nI x))]) hx hb dL_told_157 hl rfl rfl (by decide) rfl (fun ls hl => ?_)
        refine lv_goto (tgt := 15) hx hb dL_told_160 (by decide) ?_
        refine lv_iload_n hx hb dL_told_15 rfl (lv_at hl 0 rfl) ?_
        refine lv_iconst (v := 1) hx hb dL_told_16 (by decide) ?_
        refine lv_iload_n hx hb dL_told_17 rfl (lv_at hl 4 rfl) ?_
        refine lv_iconst (v := 3) hx hb dL_told_18 (by decide) ?_
        refine nv_irem hx hb x 3 (by omega) (by omega) (by omega) dL_told_19 ?_
        refine nv_iadd hx hb 1 (x % 3) dL_told_20 ?_
        refine nv_ge hx hb 2 (1 + (x % 3)) 163 (by omega) (by omega) dL_told_21 (by decide) (fun c => absurd c (by omega)) (fun _ => ?_)
        refine lv_iload_n hx hb dL_told_24 rfl (lv_at hl 1 rfl) ?_
        refine lv_if_eq (tgt := 163) hx hb dL_told_25 (by decide) (fun c => absurd c (by decide)) (fun _ => ?_)
        refine lv_iload_n hx hb dL_told_28 rfl (lv_at hl 4 rfl) ?_
        refine lv_iload_n hx hb dL_told_29 rfl (lv_at hl 0 rfl) ?_
        refine lv_ishr hx hb dL_told_30 ?_
        refine lv_istore (lv' := [(4, .int ((nI x) >>> ((2 : Int32) &&& 31))), (3, .int (2 : Int32)), (2, .int (1 : Int32)), (0, .ref (q 0)), (1, .int (nI x))]) hx hb dL_told_31 hl (by decide) rfl (fun ls hl => ?_)
        have hl : lv_has ls 5 [(4, .int (nI ((x / 4)))), (3, .int (2 : Int32)), (2, .int (1 : Int32)), (0, .ref (q 0)), (1, .int (nI x))] := by rw [show nI (x / 4) = (nI x) >>> ((2 : Int32) &&& 31) from (shr_n hx31 2 (by decide)).symm]; exact hl
        have hy2 : x / 4 < 2 ^ 31 := by omega
        refine lv_aload_n hx hb dL_told_33 rfl (lv_at hl 3 rfl) ?_
        refine lv_bipush (v := 107) hx hb dL_told_34 (by decide) ?_
        refine lv_bipush (v := 48) hx hb dL_told_36 (by decide) ?_
        refine lv_iload hx hb dL_told_38 (lv_at hl 0 rfl) ?_
        refine lv_bipush (v := 8) hx hb dL_told_40 (by decide) ?_
        refine nv_irem hx hb (x / 4) 8 (by omega) (by omega) (by omega) dL_told_42 ?_
        refine nv_iadd hx hb 48 ((x / 4) % 8) dL_told_43 ?_
        refine lv_iload hx hb dL_told_44 (lv_at hl 0 rfl) ?_
        refine lv_iconst (v := 3) hx hb dL_told_46 (by decide) ?_
        refine nv_irem hx hb (x / 4) 3 (by omega) (by omega) (by omega) dL_told_47 ?_
        have mg2 : W p l e ({ frames := 8, cells := 1, slots := 6, locals := 181 } : Room) s m args below meth c H locs 0 0 QQ (F0 m 58 ls [.int (sgn (x / 4)), .int (nI ((48 + ((x / 4) % 8)))), .int (107 : Int32), .ref (q 0)]) := by
          have hc := o_says l G cI cS cL ad mp q qn qt qs qH qx (o := o) hg (107 : Int32) (nI ((48 + ((x / 4) % 8)))) (sgn (x / 4)) (by rw [hab]; exact Nat.le_of_ble_eq_true rfl) (by decide) (cd_ok (by omega) (by omega)) (sgn_ok _)
          rw [hab] at hc
          refine co_callS (As := [.ref (q 0), .int (107 : Int32), .int (nI ((48 + ((x / 4) % 8)))), .int (sgn (x / 4))]) (rest := []) hE hC X hP hD hS hA hc cpS_says aw_842 ⟨Nat.le_of_ble_eq_true rfl, Nat.le_of_ble_eq_true rfl⟩ [0] (cs := [obC q qn qt qs qH qx cI cS ad o]) rfl (by decide) (fun u => [obC q qn qt qs qH qx cI cS ad u]) (fun _ => rfl) (fun _ => rfl) rfl hl.1 rfl (Nat.le_of_ble_eq_true rfl) dL_told_58 ⟨Nat.le_of_ble_eq_true rfl, Nat.le_of_ble_eq_true rfl⟩ (st1 := fun _ => [.int (1 : Int32)]) (fun _ => rfl) (fun u => [obC q qn qt qs qH qx cI cS ad u]) (fun _ => rfl) (fun o ho H locs hP hD hS => ?_)
          obtain ⟨hab, hg⟩ := ho
          have hab : aob o = (A.1, A.2.1, A.2.2.1, [(107 : Int32), (nI ((48 + ((x / 1) % 8)))), (sgn (x / 1)), (nI ((49 + ((x / 1) % 9)))), (59 : Int32), (119 : Int32), (nI ((48 + (((x / 1) / 2) % 8)))), (59 : Int32), (116 : Int32), (nI ((49 + (((x / 1) / 3) % 9)))), (59 : Int32), (98 : Int32), (nI ((48 + (((x / 1) / 5) % 8)))), (nI ((48 + ((x / 1) % 3)))), (59 : Int32), (107 : Int32), (nI ((48 + ((x / 2) % 8)))), (sgn (x / 2)), (nI ((49 + ((x / 2) % 9)))), (59 : Int32), (119 : Int32), (nI ((48 + (((x / 2) / 2) % 8)))), (59 : Int32), (116 : Int32), (nI ((49 + (((x / 2) / 3) % 9)))), (59 : Int32), (98 : Int32), (nI ((48 + (((x / 2) / 5) % 8)))), (nI ((48 + ((x / 2) % 3)))), (59 : Int32), (107 : Int32), (nI ((48 + ((x / 4) % 8)))), (sgn (x / 4))]) := hab
          refine lv_if_eq (tgt := 155) hx hb dL_told_61 (by decide) (fun c => absurd c (by decide)) (fun _ => ?_)
          refine lv_aload_n hx hb dL_told_64 rfl (lv_at hl 3 rfl) ?_
          refine lv_bipush (v := 49) hx hb dL_told_65 (by decide) ?_
          refine lv_iload hx hb dL_told_67 (lv_at hl 0 rfl) ?_
          refine lv_bipush (v := 9) hx hb dL_told_69 (by decide) ?_
          refine nv_irem hx hb (x / 4) 9 (by omega) (by omega) (by omega) dL_told_71 ?_
          refine nv_iadd hx hb 49 ((x / 4) % 9) dL_told_72 ?_
          refine lv_bipush (v := 59) hx hb dL_told_73 (by decide) ?_
          refine lv_bipush (v := 119) hx hb dL_told_75 (by decide) ?_
          have hc := o_says l G cI cS cL ad mp q qn qt qs qH qx (o := o) hg (nI ((49 + ((x / 4) % 9)))) (59 : Int32) (119 : Int32) (by rw [hab]; exact Nat.le_of_ble_eq_true rfl) (cd_ok (by omega) (by omega)) (by decide) (by decide)
          rw [hab] at hc
          refine co_callS (As := [.ref (q 0), .int (nI ((49 + ((x / 4) % 9)))), .int (59 : Int32), .int (119 : Int32)]) (rest := []) hE hC X hP hD hS hA hc cpS_says aw_842 ⟨Nat.le_of_ble_eq_true rfl, Nat.le_of_ble_eq_true rfl⟩ [0] (cs := [obC q qn qt qs qH qx cI cS ad o]) rfl (by decide) (fun u => [obC q qn qt qs qH qx cI cS ad u]) (fun _ => rfl) (fun _ => rfl) rfl hl.1 rfl (Nat.le_of_ble_eq_true rfl) dL_told_77 ⟨Nat.le_of_ble_eq_true rfl, Nat.le_of_ble_eq_true rfl⟩ (st1 := fun _ => [.int (1 : Int32)]) (fun _ => rfl) (fun u => [obC q qn qt qs qH qx cI cS ad u]) (fun _ => rfl) (fun o ho H locs hP hD hS => ?_)
          obtain ⟨hab, hg⟩ := ho
          have hab : aob o = (A.1, A.2.1, A.2.2.1, [(107 : Int32), (nI ((48 + ((x / 1) % 8)))), (sgn (x / 1)), (nI ((49 + ((x / 1) % 9)))), (59 : Int32), (119 : Int32), (nI ((48 + (((x / 1) / 2) % 8)))), (59 : Int32), (116 : Int32), (nI ((49 + (((x / 1) / 3) % 9)))), (59 : Int32), (98 : Int32), (nI ((48 + (((x / 1) / 5) % 8)))), (nI ((48 + ((x / 1) % 3)))), (59 : Int32), (107 : Int32), (nI ((48 + ((x / 2) % 8)))), (sgn (x / 2)), (nI ((49 + ((x / 2) % 9)))), (59 : Int32), (119 : Int32), (nI ((48 + (((x / 2) / 2) % 8)))), (59 : Int32), (116 : Int32), (nI ((49 + (((x / 2) / 3) % 9)))), (59 : Int32), (98 : Int32), (nI ((48 + (((x / 2) / 5) % 8)))), (nI ((48 + ((x / 2) % 3)))), (59 : Int32), (107 : Int32), (nI ((48 + ((x / 4) % 8)))), (sgn (x / 4)), (nI ((49 + ((x / 4) % 9)))), (59 : Int32), (119 : Int32)]) := hab
          refine lv_if_eq (tgt := 155) hx hb dL_told_80 (by decide) (fun c => absurd c (by decide)) (fun _ => ?_)
          refine lv_aload_n hx hb dL_told_83 rfl (lv_at hl 3 rfl) ?_
          refine lv_bipush (v := 48) hx hb dL_told_84 (by decide) ?_
          refine lv_iload hx hb dL_told_86 (lv_at hl 0 rfl) ?_
          refine lv_iconst (v := 2) hx hb dL_told_88 (by decide) ?_
          refine lv_idiv hx hb dL_told_89 (by decide) ?_
          refine W.eq (g2 := F0 m 90 ls [.int (nI (((x / 4) / 2))), .int (48 : Int32), .ref (q 0)]) (by rw [ndiv 2 (m := (2 : Int32)) rfl (by omega) (by decide) (by decide)]) ?_
          refine lv_bipush (v := 8) hx hb dL_told_90 (by decide) ?_
          refine nv_irem hx hb ((x / 4) / 2) 8 (by omega) (by omega) (by omega) dL_told_92 ?_
          refine nv_iadd hx hb 48 (((x / 4) / 2) % 8) dL_told_93 ?_
          refine lv_bipush (v := 59) hx hb dL_told_94 (by decide) ?_
          refine lv_bipush (v := 116) hx hb dL_told_96 (by decide) ?_
          have hc := o_says l G cI cS cL ad mp q qn qt qs qH qx (o := o) hg (nI ((48 + (((x / 4) / 2) % 8)))) (59 : Int32) (116 : Int32) (by rw [hab]; exact Nat.le_of_ble_eq_true rfl) (cd_ok (by omega) (by omega)) (by decide) (by decide)
          rw [hab] at hc
          refine co_callS (As := [.ref (q 0), .int (nI ((48 + (((x / 4) / 2) % 8)))), .int (59 : Int32), .int (116 : Int32)]) (rest := []) hE hC X hP hD hS hA hc cpS_says aw_842 ⟨Nat.le_of_ble_eq_true rfl, Nat.le_of_ble_eq_true rfl⟩ [0] (cs := [obC q qn qt qs qH qx cI cS ad o]) rfl (by decide) (fun u => [obC q qn qt qs qH qx cI cS ad u]) (fun _ => rfl) (fun _ => rfl) rfl hl.1 rfl (Nat.le_of_ble_eq_true rfl) dL_told_98 ⟨Nat.le_of_ble_eq_true rfl, Nat.le_of_ble_eq_true rfl⟩ (st1 := fun _ => [.int (1 : Int32)]) (fun _ => rfl) (fun u => [obC q qn qt qs qH qx cI cS ad u]) (fun _ => rfl) (fun o ho H locs hP hD hS => ?_)
          obtain ⟨hab, hg⟩ := ho
          have hab : aob o = (A.1, A.2.1, A.2.2.1, [(107 : Int32), (nI ((48 + ((x / 1) % 8)))), (sgn (x / 1)), (nI ((49 + ((x / 1) % 9)))), (59 : Int32), (119 : Int32), (nI ((48 + (((x / 1) / 2) % 8)))), (59 : Int32), (116 : Int32), (nI ((49 + (((x / 1) / 3) % 9)))), (59 : Int32), (98 : Int32), (nI ((48 + (((x / 1) / 5) % 8)))), (nI ((48 + ((x / 1) % 3)))), (59 : Int32), (107 : Int32), (nI ((48 + ((x / 2) % 8)))), (sgn (x / 2)), (nI ((49 + ((x / 2) % 9)))), (59 : Int32), (119 : Int32), (nI ((48 + (((x / 2) / 2) % 8)))), (59 : Int32), (116 : Int32), (nI ((49 + (((x / 2) / 3) % 9)))), (59 : Int32), (98 : Int32), (nI ((48 + (((x / 2) / 5) % 8)))), (nI ((48 + ((x / 2) % 3)))), (59 : Int32), (107 : Int32), (nI ((48 + ((x / 4) % 8)))), (sgn (x / 4)), (nI ((49 + ((x / 4) % 9)))), (59 : Int32), (119 : Int32), (nI ((48 + (((x / 4) / 2) % 8)))), (59 : Int32), (116 : Int32)]) := hab
          refine lv_if_eq (tgt := 155) hx hb dL_told_101 (by decide) (fun c => absurd c (by decide)) (fun _ => ?_)
          refine lv_aload_n hx hb dL_told_104 rfl (lv_at hl 3 rfl) ?_
          refine lv_bipush (v := 49) hx hb dL_told_105 (by decide) ?_
          refine lv_iload hx hb dL_told_107 (lv_at hl 0 rfl) ?_
          refine lv_iconst (v := 3) hx hb dL_told_109 (by decide) ?_
          refine lv_idiv hx hb dL_told_110 (by decide) ?_
          refine W.eq (g2 := F0 m 111 ls [.int (nI (((x / 4) / 3))), .int (49 : Int32), .ref (q 0)]) (by rw [ndiv 3 (m := (3 : Int32)) rfl (by omega) (by decide) (by decide)]) ?_
          refine lv_bipush (v := 9) hx hb dL_told_111 (by decide) ?_
          refine nv_irem hx hb ((x / 4) / 3) 9 (by omega) (by omega) (by omega) dL_told_113 ?_
          refine nv_iadd hx hb 49 (((x / 4) / 3) % 9) dL_told_114 ?_
          refine lv_bipush (v := 59) hx hb dL_told_115 (by decide) ?_
          refine lv_bipush (v := 98) hx hb dL_told_117 (by decide) ?_
          have hc := o_says l G cI cS cL ad mp q qn qt qs qH qx (o := o) hg (nI ((49 + (((x / 4) / 3) % 9)))) (59 : Int32) (98 : Int32) (by rw [hab]; exact Nat.le_of_ble_eq_true rfl) (cd_ok (by omega) (by omega)) (by decide) (by decide)
          rw [hab] at hc
          refine co_callS (As := [.ref (q 0), .int (nI ((49 + (((x / 4) / 3) % 9)))), .int (59 : Int32), .int (98 : Int32)]) (rest := []) hE hC X hP hD hS hA hc cpS_says aw_842 ⟨Nat.le_of_ble_eq_true rfl, Nat.le_of_ble_eq_true rfl⟩ [0] (cs := [obC q qn qt qs qH qx cI cS ad o]) rfl (by decide) (fun u => [obC q qn qt qs qH qx cI cS ad u]) (fun _ => rfl) (fun _ => rfl) rfl hl.1 rfl (Nat.le_of_ble_eq_true rfl) dL_told_119 ⟨Nat.le_of_ble_eq_true rfl, Nat.le_of_ble_eq_true rfl⟩ (st1 := fun _ => [.int (1 : Int32)]) (fun _ => rfl) (fun u => [obC q qn qt qs qH qx cI cS ad u]) (fun _ => rfl) (fun o ho H locs hP hD hS => ?_)
          obtain ⟨hab, hg⟩ := ho
          have hab : aob o = (A.1, A.2.1, A.2.2.1, [(107 : Int32), (nI ((48 + ((x / 1) % 8)))), (sgn (x / 1)), (nI ((49 + ((x / 1) % 9)))), (59 : Int32), (119 : Int32), (nI ((48 + (((x / 1) / 2) % 8)))), (59 : Int32), (116 : Int32), (nI ((49 + (((x / 1) / 3) % 9)))), (59 : Int32), (98 : Int32), (nI ((48 + (((x / 1) / 5) % 8)))), (nI ((48 + ((x / 1) % 3)))), (59 : Int32), (107 : Int32), (nI ((48 + ((x / 2) % 8)))), (sgn (x / 2)), (nI ((49 + ((x / 2) % 9)))), (59 : Int32), (119 : Int32), (nI ((48 + (((x / 2) / 2) % 8)))), (59 : Int32), (116 : Int32), (nI ((49 + (((x / 2) / 3) % 9)))), (59 : Int32), (98 : Int32), (nI ((48 + (((x / 2) / 5) % 8)))), (nI ((48 + ((x / 2) % 3)))), (59 : Int32), (107 : Int32), (nI ((48 + ((x / 4) % 8)))), (sgn (x / 4)), (nI ((49 + ((x / 4) % 9)))), (59 : Int32), (119 : Int32), (nI ((48 + (((x / 4) / 2) % 8)))), (59 : Int32), (116 : Int32), (nI ((49 + (((x / 4) / 3) % 9)))), (59 : Int32), (98 : Int32)]) := hab
          refine lv_if_eq (tgt := 155) hx hb dL_told_122 (by decide) (fun c => absurd c (by decide)) (fun _ => ?_)
          refine lv_aload_n hx hb dL_told_125 rfl (lv_at hl 3 rfl) ?_
          refine lv_bipush (v := 48) hx hb dL_told_126 (by decide) ?_
          refine lv_iload hx hb dL_told_128 (lv_at hl 0 rfl) ?_
          refine lv_iconst (v := 5) hx hb dL_told_130 (by decide) ?_
          refine lv_idiv hx hb dL_told_131 (by decide) ?_
          refine W.eq (g2 := F0 m 132 ls [.int (nI (((x / 4) / 5))), .int (48 : Int32), .ref (q 0)]) (by rw [ndiv 5 (m := (5 : Int32)) rfl (by omega) (by decide) (by decide)]) ?_
          refine lv_bipush (v := 8) hx hb dL_told_132 (by decide) ?_
          refine nv_irem hx hb ((x / 4) / 5) 8 (by omega) (by omega) (by omega) dL_told_134 ?_
          refine nv_iadd hx hb 48 (((x / 4) / 5) % 8) dL_told_135 ?_
          refine lv_bipush (v := 48) hx hb dL_told_136 (by decide) ?_
          refine lv_iload hx hb dL_told_138 (lv_at hl 0 rfl) ?_
          refine lv_iconst (v := 3) hx hb dL_told_140 (by decide) ?_
          refine nv_irem hx hb (x / 4) 3 (by omega) (by omega) (by omega) dL_told_141 ?_
          refine nv_iadd hx hb 48 ((x / 4) % 3) dL_told_142 ?_
          refine lv_bipush (v := 59) hx hb dL_told_143 (by decide) ?_
          have hc := o_says l G cI cS cL ad mp q qn qt qs qH qx (o := o) hg (nI ((48 + (((x / 4) / 5) % 8)))) (nI ((48 + ((x / 4) % 3)))) (59 : Int32) (by rw [hab]; exact Nat.le_of_ble_eq_true rfl) (cd_ok (by omega) (by omega)) (cd_ok (by omega) (by omega)) (by decide)
          rw [hab] at hc
          refine co_callS (As := [.ref (q 0), .int (nI ((48 + (((x / 4) / 5) % 8)))), .int (nI ((48 + ((x / 4) % 3)))), .int (59 : Int32)]) (rest := []) hE hC X hP hD hS hA hc cpS_says aw_842 ⟨Nat.le_of_ble_eq_true rfl, Nat.le_of_ble_eq_true rfl⟩ [0] (cs := [obC q qn qt qs qH qx cI cS ad o]) rfl (by decide) (fun u => [obC q qn qt qs qH qx cI cS ad u]) (fun _ => rfl) (fun _ => rfl) rfl hl.1 rfl (Nat.le_of_ble_eq_true rfl) dL_told_145 ⟨Nat.le_of_ble_eq_true rfl, Nat.le_of_ble_eq_true rfl⟩ (st1 := fun _ => [.int (1 : Int32)]) (fun _ => rfl) (fun u => [obC q qn qt qs qH qx cI cS ad u]) (fun _ => rfl) (fun o ho H locs hP hD hS => ?_)
          obtain ⟨hab, hg⟩ := ho
          have hab : aob o = (A.1, A.2.1, A.2.2.1, [(107 : Int32), (nI ((48 + ((x / 1) % 8)))), (sgn (x / 1)), (nI ((49 + ((x / 1) % 9)))), (59 : Int32), (119 : Int32), (nI ((48 + (((x / 1) / 2) % 8)))), (59 : Int32), (116 : Int32), (nI ((49 + (((x / 1) / 3) % 9)))), (59 : Int32), (98 : Int32), (nI ((48 + (((x / 1) / 5) % 8)))), (nI ((48 + ((x / 1) % 3)))), (59 : Int32), (107 : Int32), (nI ((48 + ((x / 2) % 8)))), (sgn (x / 2)), (nI ((49 + ((x / 2) % 9)))), (59 : Int32), (119 : Int32), (nI ((48 + (((x / 2) / 2) % 8)))), (59 : Int32), (116 : Int32), (nI ((49 + (((x / 2) / 3) % 9)))), (59 : Int32), (98 : Int32), (nI ((48 + (((x / 2) / 5) % 8)))), (nI ((48 + ((x / 2) % 3)))), (59 : Int32), (107 : Int32), (nI ((48 + ((x / 4) % 8)))), (sgn (x / 4)), (nI ((49 + ((x / 4) % 9)))), (59 : Int32), (119 : Int32), (nI ((48 + (((x / 4) / 2) % 8)))), (59 : Int32), (116 : Int32), (nI ((49 + (((x / 4) / 3) % 9)))), (59 : Int32), (98 : Int32), (nI ((48 + (((x / 4) / 5) % 8)))), (nI ((48 + ((x / 4) % 3)))), (59 : Int32)]) := hab
          refine lv_if_eq (tgt := 155) hx hb dL_told_148 (by decide) (fun c => absurd c (by decide)) (fun _ => ?_)
          refine lv_iconst (v := 1) hx hb dL_told_151 (by decide) ?_
          refine lv_goto (tgt := 156) hx hb dL_told_152 (by decide) ?_
          refine lv_istore_n (lv' := [(2, .int (1 : Int32)), (4, .int (nI ((x / 4)))), (3, .int (2 : Int32)), (0, .ref (q 0)), (1, .int (nI x))]) hx hb dL_told_156 rfl hl (by decide) rfl (fun ls hl => ?_)
          refine lv_iinc (v := (3 : Int32)) (k := 2) (lv' := [(3, .int (3 : Int32)), (2, .int (1 : Int32)), (4, .int (nI ((x / 4)))), (0, .ref (q 0)), (1, .int (nI x))]) hx hb dL_told_157 hl rfl rfl (by decide) rfl (fun ls hl => ?_)
          refine lv_goto (tgt := 15) hx hb dL_told_160 (by decide) ?_
          refine lv_iload_n hx hb dL_told_15 rfl (lv_at hl 0 rfl) ?_
          refine lv_iconst (v := 1) hx hb dL_told_16 (by decide) ?_
          refine lv_iload_n hx hb dL_told_17 rfl (lv_at hl 4 rfl) ?_
          refine lv_iconst (v := 3) hx hb dL_told_18 (by decide) ?_
          refine nv_irem hx hb x 3 (by omega) (by omega) (by omega) dL_told_19 ?_
          refine nv_iadd hx hb 1 (x % 3) dL_told_20 ?_
          refine nv_ge hx hb 3 (1 + (x % 3)) 163 (by omega) (by omega) dL_told_21 (by decide) (fun _ => ?_) (fun c => absurd (by omega) c)
          refine lv_iload_n hx hb dL_told_163 rfl (lv_at hl 1 rfl) ?_
          refine lv_if_eq (tgt := 218) hx hb dL_told_164 (by decide) (fun c => absurd c (by decide)) (fun _ => ?_)
          refine lv_aload_n hx hb dL_told_167 rfl (lv_at hl 3 rfl) ?_
          refine lv_bipush (v := 116) hx hb dL_told_168 (by decide) ?_
          have hc := oz_append l G cI cS cL ad mp q qn qt qs qH qx (o := o) hg (116 : Int32) (by decide) (by rw [hab]; exact nf_of (Nat.le_of_ble_eq_true rfl))
          rw [hab] at hc
          have ev := app_ok (A := (A.1, A.2.1, A.2.2.1, [(107 : Int32), (nI ((48 + ((x / 1) % 8)))), (sgn (x / 1)), (nI ((49 + ((x / 1) % 9)))), (59 : Int32), (119 : Int32), (nI ((48 + (((x / 1) / 2) % 8)))), (59 : Int32), (116 : Int32), (nI ((49 + (((x / 1) / 3) % 9)))), (59 : Int32), (98 : Int32), (nI ((48 + (((x / 1) / 5) % 8)))), (nI ((48 + ((x / 1) % 3)))), (59 : Int32), (107 : Int32), (nI ((48 + ((x / 2) % 8)))), (sgn (x / 2)), (nI ((49 + ((x / 2) % 9)))), (59 : Int32), (119 : Int32), (nI ((48 + (((x / 2) / 2) % 8)))), (59 : Int32), (116 : Int32), (nI ((49 + (((x / 2) / 3) % 9)))), (59 : Int32), (98 : Int32), (nI ((48 + (((x / 2) / 5) % 8)))), (nI ((48 + ((x / 2) % 3)))), (59 : Int32), (107 : Int32), (nI ((48 + ((x / 4) % 8)))), (sgn (x / 4)), (nI ((49 + ((x / 4) % 9)))), (59 : Int32), (119 : Int32), (nI ((48 + (((x / 4) / 2) % 8)))), (59 : Int32), (116 : Int32), (nI ((49 + (((x / 4) / 3) % 9)))), (59 : Int32), (98 : Int32), (nI ((48 + (((x / 4) / 5) % 8)))), (nI ((48 + ((x / 4) % 3)))), (59 : Int32)])) (c := (116 : Int32)) (by decide) (Nat.le_of_ble_eq_true rfl)
          rw [ev] at hc
          refine co_callH (As := [.ref (q 0), .int (116 : Int32)]) (rest := []) hE hC X hP hD hS hA hc cpH_append aw_603 ⟨Nat.le_of_ble_eq_true rfl, Nat.le_of_ble_eq_true rfl⟩ [0] (cs := [obC q qn qt qs qH qx cI cS ad o]) rfl (by decide) (fun u => [obC q qn qt qs qH qx cI cS ad u]) (fun _ => rfl) (fun _ => rfl) rfl hl.1 rfl (Nat.le_of_ble_eq_true rfl) dL_told_170 ⟨Nat.le_of_ble_eq_true rfl, Nat.le_of_ble_eq_true rfl⟩ (st1 := fun _ => [.long ((nI (45 + 1)).toInt64)]) (fun _ => rfl) (fun u => [obC q qn qt qs qH qx cI cS ad u]) (fun _ => rfl) (fun o ho H locs hP hD hS => ?_)
          obtain ⟨hab, hg⟩ := ho
          have hab : aob o = (A.1, A.2.1, A.2.2.1, [(107 : Int32), (nI ((48 + ((x / 1) % 8)))), (sgn (x / 1)), (nI ((49 + ((x / 1) % 9)))), (59 : Int32), (119 : Int32), (nI ((48 + (((x / 1) / 2) % 8)))), (59 : Int32), (116 : Int32), (nI ((49 + (((x / 1) / 3) % 9)))), (59 : Int32), (98 : Int32), (nI ((48 + (((x / 1) / 5) % 8)))), (nI ((48 + ((x / 1) % 3)))), (59 : Int32), (107 : Int32), (nI ((48 + ((x / 2) % 8)))), (sgn (x / 2)), (nI ((49 + ((x / 2) % 9)))), (59 : Int32), (119 : Int32), (nI ((48 + (((x / 2) / 2) % 8)))), (59 : Int32), (116 : Int32), (nI ((49 + (((x / 2) / 3) % 9)))), (59 : Int32), (98 : Int32), (nI ((48 + (((x / 2) / 5) % 8)))), (nI ((48 + ((x / 2) % 3)))), (59 : Int32), (107 : Int32), (nI ((48 + ((x / 4) % 8)))), (sgn (x / 4)), (nI ((49 + ((x / 4) % 9)))), (59 : Int32), (119 : Int32), (nI ((48 + (((x / 4) / 2) % 8)))), (59 : Int32), (116 : Int32), (nI ((49 + (((x / 4) / 3) % 9)))), (59 : Int32), (98 : Int32), (nI ((48 + (((x / 4) / 5) % 8)))), (nI ((48 + ((x / 4) % 3)))), (59 : Int32), (116 : Int32)]) := hab
          refine lv_lconst (v := 0) hx hb dL_told_173 (by decide) ?_
          refine W.lcmp hx hb dL_told_174 ?_
          refine lv_if_le (tgt := 218) hx hb dL_told_175 (by decide) (fun c => absurd c (lg_pos (by decide))) (fun _ => ?_)
          refine lv_aload_n hx hb dL_told_178 rfl (lv_at hl 3 rfl) ?_
          refine lv_bipush (v := 49) hx hb dL_told_179 (by decide) ?_
          refine lv_iload_n hx hb dL_told_181 rfl (lv_at hl 4 rfl) ?_
          refine lv_bipush (v := 9) hx hb dL_told_182 (by decide) ?_
          refine nv_irem hx hb x 9 (by omega) (by omega) (by omega) dL_told_184 ?_
          refine nv_iadd hx hb 49 (x % 9) dL_told_185 ?_
          have hc := oz_append l G cI cS cL ad mp q qn qt qs qH qx (o := o) hg (nI ((49 + (x % 9)))) (cd_ok (by omega) (by omega)) (by rw [hab]; exact nf_of (Nat.le_of_ble_eq_true rfl))
          rw [hab] at hc
          have ev := app_ok (A := (A.1, A.2.1, A.2.2.1, [(107 : Int32), (nI ((48 + ((x / 1) % 8)))), (sgn (x / 1)), (nI ((49 + ((x / 1) % 9)))), (59 : Int32), (119 : Int32), (nI ((48 + (((x / 1) / 2) % 8)))), (59 : Int32), (116 : Int32), (nI ((49 + (((x / 1) / 3) % 9)))), (59 : Int32), (98 : Int32), (nI ((48 + (((x / 1) / 5) % 8)))), (nI ((48 + ((x / 1) % 3)))), (59 : Int32), (107 : Int32), (nI ((48 + ((x / 2) % 8)))), (sgn (x / 2)), (nI ((49 + ((x / 2) % 9)))), (59 : Int32), (119 : Int32), (nI ((48 + (((x / 2) / 2) % 8)))), (59 : Int32), (116 : Int32), (nI ((49 + (((x / 2) / 3) % 9)))), (59 : Int32), (98 : Int32), (nI ((48 + (((x / 2) / 5) % 8)))), (nI ((48 + ((x / 2) % 3)))), (59 : Int32), (107 : Int32), (nI ((48 + ((x / 4) % 8)))), (sgn (x / 4)), (nI ((49 + ((x / 4) % 9)))), (59 : Int32), (119 : Int32), (nI ((48 + (((x / 4) / 2) % 8)))), (59 : Int32), (116 : Int32), (nI ((49 + (((x / 4) / 3) % 9)))), (59 : Int32), (98 : Int32), (nI ((48 + (((x / 4) / 5) % 8)))), (nI ((48 + ((x / 4) % 3)))), (59 : Int32), (116 : Int32)])) (c := (nI ((49 + (x % 9))))) (cd_ok (by omega) (by omega)) (Nat.le_of_ble_eq_true rfl)
          rw [ev] at hc
          refine co_callH (As := [.ref (q 0), .int (nI ((49 + (x % 9))))]) (rest := []) hE hC X hP hD hS hA hc cpH_append aw_603 ⟨Nat.le_of_ble_eq_true rfl, Nat.le_of_ble_eq_true rfl⟩ [0] (cs := [obC q qn qt qs qH qx cI cS ad o]) rfl (by decide) (fun u => [obC q qn qt qs qH qx cI cS ad u]) (fun _ => rfl) (fun _ => rfl) rfl hl.1 rfl (Nat.le_of_ble_eq_true rfl) dL_told_186 ⟨Nat.le_of_ble_eq_true rfl, Nat.le_of_ble_eq_true rfl⟩ (st1 := fun _ => [.long ((nI (46 + 1)).toInt64)]) (fun _ => rfl) (fun u => [obC q qn qt qs qH qx cI cS ad u]) (fun _ => rfl) (fun o ho H locs hP hD hS => ?_)
          obtain ⟨hab, hg⟩ := ho
          have hab : aob o = (A.1, A.2.1, A.2.2.1, [(107 : Int32), (nI ((48 + ((x / 1) % 8)))), (sgn (x / 1)), (nI ((49 + ((x / 1) % 9)))), (59 : Int32), (119 : Int32), (nI ((48 + (((x / 1) / 2) % 8)))), (59 : Int32), (116 : Int32), (nI ((49 + (((x / 1) / 3) % 9)))), (59 : Int32), (98 : Int32), (nI ((48 + (((x / 1) / 5) % 8)))), (nI ((48 + ((x / 1) % 3)))), (59 : Int32), (107 : Int32), (nI ((48 + ((x / 2) % 8)))), (sgn (x / 2)), (nI ((49 + ((x / 2) % 9)))), (59 : Int32), (119 : Int32), (nI ((48 + (((x / 2) / 2) % 8)))), (59 : Int32), (116 : Int32), (nI ((49 + (((x / 2) / 3) % 9)))), (59 : Int32), (98 : Int32), (nI ((48 + (((x / 2) / 5) % 8)))), (nI ((48 + ((x / 2) % 3)))), (59 : Int32), (107 : Int32), (nI ((48 + ((x / 4) % 8)))), (sgn (x / 4)), (nI ((49 + ((x / 4) % 9)))), (59 : Int32), (119 : Int32), (nI ((48 + (((x / 4) / 2) % 8)))), (59 : Int32), (116 : Int32), (nI ((49 + (((x / 4) / 3) % 9)))), (59 : Int32), (98 : Int32), (nI ((48 + (((x / 4) / 5) % 8)))), (nI ((48 + ((x / 4) % 3)))), (59 : Int32), (116 : Int32), (nI ((49 + (x % 9))))]) := hab
          refine lv_lconst (v := 0) hx hb dL_told_189 (by decide) ?_
          refine W.lcmp hx hb dL_told_190 ?_
          refine lv_if_le (tgt := 218) hx hb dL_told_191 (by decide) (fun c => absurd c (lg_pos (by decide))) (fun _ => ?_)
          have et : textOf x = [(107 : Int32), (nI ((48 + ((x / 1) % 8)))), (sgn (x / 1)), (nI ((49 + ((x / 1) % 9)))), (59 : Int32), (119 : Int32), (nI ((48 + (((x / 1) / 2) % 8)))), (59 : Int32), (116 : Int32), (nI ((49 + (((x / 1) / 3) % 9)))), (59 : Int32), (98 : Int32), (nI ((48 + (((x / 1) / 5) % 8)))), (nI ((48 + ((x / 1) % 3)))), (59 : Int32), (107 : Int32), (nI ((48 + ((x / 2) % 8)))), (sgn (x / 2)), (nI ((49 + ((x / 2) % 9)))), (59 : Int32), (119 : Int32), (nI ((48 + (((x / 2) / 2) % 8)))), (59 : Int32), (116 : Int32), (nI ((49 + (((x / 2) / 3) % 9)))), (59 : Int32), (98 : Int32), (nI ((48 + (((x / 2) / 5) % 8)))), (nI ((48 + ((x / 2) % 3)))), (59 : Int32), (107 : Int32), (nI ((48 + ((x / 4) % 8)))), (sgn (x / 4)), (nI ((49 + ((x / 4) % 9)))), (59 : Int32), (119 : Int32), (nI ((48 + (((x / 4) / 2) % 8)))), (59 : Int32), (116 : Int32), (nI ((49 + (((x / 4) / 3) % 9)))), (59 : Int32), (98 : Int32), (nI ((48 + (((x / 4) / 5) % 8)))), (nI ((48 + ((x / 4) % 3)))), (59 : Int32), (116 : Int32), (nI ((49 + (x % 9))))] := by
            unfold textOf
            rw [if_neg (by omega), if_neg (by omega)]
            rfl
          have hab : aob o = (A.1, A.2.1, A.2.2.1, textOf x) := by rw [et]; exact hab
          refine lv_aload_n hx hb dL_told_194 rfl (lv_at hl 3 rfl) ?_
          have hc := o5_firstError l G cI cS cL ad mp q qn qt qs qH qx (o := o) hg
          rw [hab] at hc
          refine co_callV (As := []) (rest := []) hE hC X hP hD hS hA hc cp_X5_firstError aw_761 ⟨Nat.le_of_ble_eq_true rfl, Nat.le_of_ble_eq_true rfl⟩ [0] (cs := [obC q qn qt qs qH qx cI cS ad o]) rfl (by decide) (fun u => [obC q qn qt qs qH qx cI cS ad u]) (fun _ => rfl) (fun _ => rfl) 3 rfl rfl (q0 := 0) rfl rfl hl.1 rfl (Nat.le_of_ble_eq_true rfl) dL_told_195 ⟨Nat.le_of_ble_eq_true rfl, Nat.le_of_ble_eq_true rfl⟩ (st1 := fun _ => [.int (firstV (A.1, A.2.1, A.2.2.1, textOf x))]) (fun _ => rfl) (fun u => [obC q qn qt qs qH qx cI cS ad u]) (fun _ => rfl) (fun o ho H locs hP hD hS => ?_)
          obtain ⟨hab, hg⟩ := ho
          refine lv_iconst (v := 2) hx hb dL_told_198 (by decide) ?_
          refine lv_bipush (v := 15) hx hb dL_told_199 (by decide) ?_
          refine lv_iconst (v := 1) hx hb dL_told_201 (by decide) ?_
          refine lv_iload_n hx hb dL_told_202 rfl (lv_at hl 4 rfl) ?_
          refine lv_iconst (v := 3) hx hb dL_told_203 (by decide) ?_
          refine nv_irem hx hb x 3 (by omega) (by omega) (by omega) dL_told_204 ?_
          refine nv_iadd hx hb 1 (x % 3) dL_told_205 ?_
          refine nv_imul hx hb 15 (1 + (x % 3)) dL_told_206 ?_
          refine nv_iadd hx hb 2 (15 * (1 + (x % 3))) dL_told_207 ?_
          refine iv_ne hx hb 218 dL_told_208 (by decide) (fun cE => ?_) (fun cE => ?_)
          · refine lv_ldc2 hx hb hown (hw _ aw_671) dL_told_218 ?_
            have ea : toldA A x = (-1, (A.1, A.2.1, A.2.2.1, textOf x)) := if_neg cE
            refine W.widen (k := 1) (n := 6) (Nat.le_of_ble_eq_true rfl) (Nat.le_of_ble_eq_true rfl) ?_
            rw [← hQQ]
            exact W.lret hx hb hr (ct_endO o ⟨by rw [ea]; exact hab, hg⟩ (by show _ = some (Value.long (toldA A x).1); rw [ea]) hP hD hS) hS.2.2 dL_told_221
          · refine lv_aload_n hx hb dL_told_211 rfl (lv_at hl 3 rfl) ?_
            have hc := o_obey l hlt G cI cS cL ad mp q qn qt qs qH qx (o := o) hg
            rw [hab] at hc
            refine co_callH (As := [.ref (q 0)]) (rest := []) hE hC X hP hD hS hA hc cpH_obey aw_845 ⟨Nat.le_of_ble_eq_true rfl, Nat.le_of_ble_eq_true rfl⟩ [0] (cs := [obC q qn qt qs qH qx cI cS ad o]) rfl (by decide) (fun u => [obC q qn qt qs qH qx cI cS ad u]) (fun _ => rfl) (fun _ => rfl) rfl hl.1 rfl (Nat.le_of_ble_eq_true rfl) dL_told_212 ⟨Nat.le_of_ble_eq_true rfl, Nat.le_of_ble_eq_true rfl⟩ (st1 := fun _ => [.long ((obeyA (A.1, A.2.1, A.2.2.1, textOf x)).1)]) (fun _ => rfl) (fun u => [obC q qn qt qs qH qx cI cS ad u]) (fun _ => rfl) (fun o ho H locs hP hD hS => ?_)
            obtain ⟨hab, hg⟩ := ho
            refine lv_goto (tgt := 221) hx hb dL_told_215 (by decide) ?_
            have ea : toldA A x = obeyA (A.1, A.2.1, A.2.2.1, textOf x) := if_pos cE
            refine W.widen (k := 1) (n := 6) (Nat.le_of_ble_eq_true rfl) (Nat.le_of_ble_eq_true rfl) ?_
            rw [← hQQ]
            exact W.lret hx hb hr (ct_endO o ⟨by rw [ea]; exact hab, hg⟩ (by show _ = some (Value.long (toldA A x).1); rw [ea]) hP hD hS) hS.2.2 dL_told_221
        refine iv_ifne hx hb 56 dL_told_48 (by decide) (fun c => ?_) (fun c => ?_)
        · refine lv_bipush (v := 43) hx hb dL_told_56 (by decide) ?_
          rw [show (43 : Int32) = sgn (x / 4) from by unfold sgn; rw [if_neg (fun q => c (by rw [q]; rfl))]]
          exact mg2
        · refine lv_bipush (v := 45) hx hb dL_told_51 (by decide) ?_
          refine lv_goto (tgt := 58) hx hb dL_told_53 (by decide) ?_
          rw [show (45 : Int32) = sgn (x / 4) from by unfold sgn; rw [if_pos ((nI_eq (by omega) (by omega)).mp (c.trans nI_0.symm))]]
          exact mg2
      refine iv_ifne hx hb 56 dL_told_48 (by decide) (fun c => ?_) (fun c => ?_)
      · refine lv_bipush (v := 43) hx hb dL_told_56 (by decide) ?_
        rw [show (43 : Int32) = sgn (x / 2) from by unfold sgn; rw [if_neg (fun q => c (by rw [q]; rfl))]]
        exact mg1
      · refine lv_bipush (v := 45) hx hb dL_told_51 (by decide) ?_
        refine lv_goto (tgt := 58) hx hb dL_told_53 (by decide) ?_
        rw [show (45 : Int32) = sgn (x / 2) from by unfold sgn; rw [if_pos ((nI_eq (by omega) (by omega)).mp (c.trans nI_0.symm))]]
        exact mg1
    refine iv_ifne hx hb 56 dL_told_48 (by decide) (fun c => ?_) (fun c => ?_)
    · refine lv_bipush (v := 43) hx hb dL_told_56 (by decide) ?_
      rw [show (43 : Int32) = sgn (x / 1) from by unfold sgn; rw [if_neg (fun q => c (by rw [q]; rfl))]]
      exact mg0
    · refine lv_bipush (v := 45) hx hb dL_told_51 (by decide) ?_
      refine lv_goto (tgt := 58) hx hb dL_told_53 (by decide) ?_
      rw [show (45 : Int32) = sgn (x / 1) from by unfold sgn; rw [if_pos ((nI_eq (by omega) (by omega)).mp (c.trans nI_0.symm))]]
      exact mg0
set_option maxRecDepth 100000 in
set_option maxHeartbeats 4000000 in
theorem o_act (l : Launch) (hlt : l.stackTraces = false) (G : va_G) (cI cS cL : ClassId) (ad : Nat → Nat) (mp : Nat) (q qn qt qs qH qx : Nat → Nat) {o : Ob} (hg : Gd o) {bb : Nat} (hI : IA bb (aob o)) (x : Nat) (y : Nat) (hx31 : x < 2 ^ 31) (hy31 : y < 2 ^ 31) : CtO l G (tyl cI cS cL) ad mp yL_act (Cond.code yL_act cL_act 4 (some .long)) 9 205 1 6 [.ref (q 0), .int (nI x), .int (nI y)] [obC q qn qt qs qH qx cI cS ad o].flatten (fun u => aob u = (actA (aob o) x y).2 ∧ Gd u) (fun _ => some (.long (actA (aob o) x y).1)) (fun u => [obC q qn qt qs qH qx cI cS ad u].flatten) := by
  obtain ⟨A, hab⟩ : ∃ A, aob o = A := ⟨_, rfl⟩
  rw [hab] at hI ⊢
  refine CtO.of (by decide +kernel) (Nat.le_of_ble_eq_true rfl) ?_
  intro p e s m args below meth c A0 ls hx hb hr hml hw hown hlocks hK hN hC hE hP hD hS hA hl
  have hown : s.vm.findClass RL = some m.cls := hown
  have X : Cx p s m args c cL_act 4 RL G (tyl cI cS cL) := ⟨hx, hb, hml, hown, hw, hK, hN⟩
  have hP : va_P G classes [obC q qn qt qs qH qx cI cS ad o].flatten s.heap := hP
  have hl : lv_has ls 4 [(0, .ref (q 0)), (1, .int (nI x)), (2, .int (nI y))] := hl
  generalize hQQ : MQ below _ args s 1 6 A0 = QQ
  refine lv_iload_n hx hb dL_act_0 rfl (lv_at hl 2 rfl) ?_
  refine lv_bipush (v := 32) hx hb dL_act_1 (by decide) ?_
  refine lv_idiv hx hb dL_act_3 (by decide) ?_
  refine W.eq (g2 := F0 m 4 ls [.int (nI ((y / 32)))]) (by rw [ndiv 32 (m := (32 : Int32)) rfl (by omega) (by decide) (by decide)]) ?_
  refine lv_istore_n (lv' := [(3, .int (nI ((y / 32)))), (0, .ref (q 0)), (1, .int (nI x)), (2, .int (nI y))]) hx hb dL_act_4 rfl hl (by decide) rfl (fun ls hl => ?_)
  refine lv_iload_n hx hb dL_act_5 rfl (lv_at hl 2 rfl) ?_
  refine lv_bipush (v := 20) hx hb dL_act_6 (by decide) ?_
  refine nv_irem hx hb x 20 (by omega) (by omega) (by omega) dL_act_8 ?_
  have h20 : x % 20 = 0 ∨ x % 20 = 1 ∨ x % 20 = 2 ∨ x % 20 = 3 ∨ x % 20 = 4 ∨ x % 20 = 5 ∨ x % 20 = 6 ∨ x % 20 = 7 ∨ x % 20 = 8 ∨ x % 20 = 9 ∨ x % 20 = 10 ∨ x % 20 = 11 ∨ x % 20 = 12 ∨ x % 20 = 13 ∨ x % 20 = 14 ∨ x % 20 = 15 ∨ x % 20 = 16 ∨ x % 20 = 17 ∨ x % 20 = 18 ∨ x % 20 = 19 := by omega
  rcases h20 with h20 | h20 | h20 | h20 | h20 | h20 | h20 | h20 | h20 | h20 | h20 | h20 | h20 | h20 | h20 | h20 | h20 | h20 | h20 | h20
  · rw [h20]
    refine lv_tableIn (off := 91) (tgt := 100) hx hb dL_act_9 (by decide +kernel) (by decide +kernel) (by decide +kernel) (by decide) ?_
    refine lv_aload_n hx hb dL_act_100 rfl (lv_at hl 1 rfl) ?_
    refine lv_iconst (v := 1) hx hb dL_act_101 (by decide) ?_
    refine lv_iload_n hx hb dL_act_102 rfl (lv_at hl 3 rfl) ?_
    refine lv_iload_n hx hb dL_act_103 rfl (lv_at hl 0 rfl) ?_
    refine lv_iconst (v := 5) hx hb dL_act_104 (by decide) ?_
    refine nv_irem hx hb (y / 32) 5 (by omega) (by omega) (by omega) dL_act_105 ?_
    refine iv_ifne hx hb 115 dL_act_106 (by decide) (fun c5 => ?_) (fun c5 => ?_)
    · have hc5 : ¬ (y / 32) % 5 = 0 := fun q => c5 (by rw [q]; rfl)
      refine lv_bipush (v := 12) hx hb dL_act_115 (by decide) ?_
      refine nv_irem hx hb y 12 (by omega) (by omega) (by omega) dL_act_117 ?_
      refine nv_iadd hx hb 1 (y % 12) dL_act_118 ?_
      have hc := o_pass l hlt G cI cS cL ad mp q qn qt qs qH qx (o := o) hg (nI ((1 + (y % 12))))
      rw [hab] at hc
      refine co_callH (As := [.ref (q 0), .int (nI ((1 + (y % 12))))]) (rest := []) hE hC X hP hD hS hA hc cpH_pass aw_465 ⟨Nat.le_of_ble_eq_true rfl, Nat.le_of_ble_eq_true rfl⟩ [0] (cs := [obC q qn qt qs qH qx cI cS ad o]) rfl (by decide) (fun u => [obC q qn qt qs qH qx cI cS ad u]) (fun _ => rfl) (fun _ => rfl) rfl hl.1 rfl (Nat.le_of_ble_eq_true rfl) dL_act_119 ⟨Nat.le_of_ble_eq_true rfl, Nat.le_of_ble_eq_true rfl⟩ (st1 := fun _ => [.long ((passA A (nI ((1 + (y % 12))))).1)]) (fun _ => rfl) (fun u => [obC q qn qt qs qH qx cI cS ad u]) (fun _ => rfl) (fun o ho H locs hP hD hS => ?_)
      obtain ⟨hab, hg⟩ := ho
      have ea : actA A x y = passA A (nI (1 + (y % 12))) := by
        unfold actA
        rw [h20, if_pos (by decide), if_neg hc5]
      refine W.widen (k := 1) (n := 6) (Nat.le_of_ble_eq_true rfl) (Nat.le_of_ble_eq_true rfl) ?_
      rw [← hQQ]
      exact W.lret hx hb hr (ct_endO o ⟨by rw [ea]; exact hab, hg⟩ (by show _ = some (Value.long (actA A x y).1); rw [ea]) hP hD hS) hS.2.2 dL_act_122
    · have hc5 : (y / 32) % 5 = 0 := (nI_eq (by omega) (by omega)).mp (c5.trans nI_0.symm)
      refine lv_sipush (v := 200) hx hb dL_act_109 (by decide) ?_
      refine lv_goto (tgt := 117) hx hb dL_act_112 (by decide) ?_
      refine nv_irem hx hb y 200 (by omega) (by omega) (by omega) dL_act_117 ?_
      refine nv_iadd hx hb 1 (y % 200) dL_act_118 ?_
      have hc := o_pass l hlt G cI cS cL ad mp q qn qt qs qH qx (o := o) hg (nI ((1 + (y % 200))))
      rw [hab] at hc
      refine co_callH (As := [.ref (q 0), .int (nI ((1 + (y % 200))))]) (rest := []) hE hC X hP hD hS hA hc cpH_pass aw_465 ⟨Nat.le_of_ble_eq_true rfl, Nat.le_of_ble_eq_true rfl⟩ [0] (cs := [obC q qn qt qs qH qx cI cS ad o]) rfl (by decide) (fun u => [obC q qn qt qs qH qx cI cS ad u]) (fun _ => rfl) (fun _ => rfl) rfl hl.1 rfl (Nat.le_of_ble_eq_true rfl) dL_act_119 ⟨Nat.le_of_ble_eq_true rfl, Nat.le_of_ble_eq_true rfl⟩ (st1 := fun _ => [.long ((passA A (nI ((1 + (y % 200))))).1)]) (fun _ => rfl) (fun u => [obC q qn qt qs qH qx cI cS ad u]) (fun _ => rfl) (fun o ho H locs hP hD hS => ?_)
      obtain ⟨hab, hg⟩ := ho
      have ea : actA A x y = passA A (nI (1 + (y % 200))) := by
        unfold actA
        rw [h20, if_pos (by decide), if_pos hc5]
      refine W.widen (k := 1) (n := 6) (Nat.le_of_ble_eq_true rfl) (Nat.le_of_ble_eq_true rfl) ?_
      rw [← hQQ]
      exact W.lret hx hb hr (ct_endO o ⟨by rw [ea]; exact hab, hg⟩ (by show _ = some (Value.long (actA A x y).1); rw [ea]) hP hD hS) hS.2.2 dL_act_122
  · rw [h20]
    refine lv_tableIn (off := 91) (tgt := 100) hx hb dL_act_9 (by decide +kernel) (by decide +kernel) (by decide +kernel) (by decide) ?_
    refine lv_aload_n hx hb dL_act_100 rfl (lv_at hl 1 rfl) ?_
    refine lv_iconst (v := 1) hx hb dL_act_101 (by decide) ?_
    refine lv_iload_n hx hb dL_act_102 rfl (lv_at hl 3 rfl) ?_
    refine lv_iload_n hx hb dL_act_103 rfl (lv_at hl 0 rfl) ?_
    refine lv_iconst (v := 5) hx hb dL_act_104 (by decide) ?_
    refine nv_irem hx hb (y / 32) 5 (by omega) (by omega) (by omega) dL_act_105 ?_
    refine iv_ifne hx hb 115 dL_act_106 (by decide) (fun c5 => ?_) (fun c5 => ?_)
    · have hc5 : ¬ (y / 32) % 5 = 0 := fun q => c5 (by rw [q]; rfl)
      refine lv_bipush (v := 12) hx hb dL_act_115 (by decide) ?_
      refine nv_irem hx hb y 12 (by omega) (by omega) (by omega) dL_act_117 ?_
      refine nv_iadd hx hb 1 (y % 12) dL_act_118 ?_
      have hc := o_pass l hlt G cI cS cL ad mp q qn qt qs qH qx (o := o) hg (nI ((1 + (y % 12))))
      rw [hab] at hc
      refine co_callH (As := [.ref (q 0), .int (nI ((1 + (y % 12))))]) (rest := []) hE hC X hP hD hS hA hc cpH_pass aw_465 ⟨Nat.le_of_ble_eq_true rfl, Nat.le_of_ble_eq_true rfl⟩ [0] (cs := [obC q qn qt qs qH qx cI cS ad o]) rfl (by decide) (fun u => [obC q qn qt qs qH qx cI cS ad u]) (fun _ => rfl) (fun _ => rfl) rfl hl.1 rfl (Nat.le_of_ble_eq_true rfl) dL_act_119 ⟨Nat.le_of_ble_eq_true rfl, Nat.le_of_ble_eq_true rfl⟩ (st1 := fun _ => [.long ((passA A (nI ((1 + (y % 12))))).1)]) (fun _ => rfl) (fun u => [obC q qn qt qs qH qx cI cS ad u]) (fun _ => rfl) (fun o ho H locs hP hD hS => ?_)
      obtain ⟨hab, hg⟩ := ho
      have ea : actA A x y = passA A (nI (1 + (y % 12))) := by
        unfold actA
        rw [h20, if_pos (by decide), if_neg hc5]
      refine W.widen (k := 1) (n := 6) (Nat.le_of_ble_eq_true rfl) (Nat.le_of_ble_eq_true rfl) ?_
      rw [← hQQ]
      exact W.lret hx hb hr (ct_endO o ⟨by rw [ea]; exact hab, hg⟩ (by show _ = some (Value.long (actA A x y).1); rw [ea]) hP hD hS) hS.2.2 dL_act_122
    · have hc5 : (y / 32) % 5 = 0 := (nI_eq (by omega) (by omega)).mp (c5.trans nI_0.symm)
      refine lv_sipush (v := 200) hx hb dL_act_109 (by decide) ?_
      refine lv_goto (tgt := 117) hx hb dL_act_112 (by decide) ?_
      refine nv_irem hx hb y 200 (by omega) (by omega) (by omega) dL_act_117 ?_
      refine nv_iadd hx hb 1 (y % 200) dL_act_118 ?_
      have hc := o_pass l hlt G cI cS cL ad mp q qn qt qs qH qx (o := o) hg (nI ((1 + (y % 200))))
      rw [hab] at hc
      refine co_callH (As := [.ref (q 0), .int (nI ((1 + (y % 200))))]) (rest := []) hE hC X hP hD hS hA hc cpH_pass aw_465 ⟨Nat.le_of_ble_eq_true rfl, Nat.le_of_ble_eq_true rfl⟩ [0] (cs := [obC q qn qt qs qH qx cI cS ad o]) rfl (by decide) (fun u => [obC q qn qt qs qH qx cI cS ad u]) (fun _ => rfl) (fun _ => rfl) rfl hl.1 rfl (Nat.le_of_ble_eq_true rfl) dL_act_119 ⟨Nat.le_of_ble_eq_true rfl, Nat.le_of_ble_eq_true rfl⟩ (st1 := fun _ => [.long ((passA A (nI ((1 + (y % 200))))).1)]) (fun _ => rfl) (fun u => [obC q qn qt qs qH qx cI cS ad u]) (fun _ => rfl) (fun o ho H locs hP hD hS => ?_)
      obtain ⟨hab, hg⟩ := ho
      have ea : actA A x y = passA A (nI (1 + (y % 200))) := by
        unfold actA
        rw [h20, if_pos (by decide), if_pos hc5]
      refine W.widen (k := 1) (n := 6) (Nat.le_of_ble_eq_true rfl) (Nat.le_of_ble_eq_true rfl) ?_
      rw [← hQQ]
      exact W.lret hx hb hr (ct_endO o ⟨by rw [ea]; exact hab, hg⟩ (by show _ = some (Value.long (actA A x y).1); rw [ea]) hP hD hS) hS.2.2 dL_act_122
  · rw [h20]
    refine lv_tableIn (off := 91) (tgt := 100) hx hb dL_act_9 (by decide +kernel) (by decide +kernel) (by decide +kernel) (by decide) ?_
    refine lv_aload_n hx hb dL_act_100 rfl (lv_at hl 1 rfl) ?_
    refine lv_iconst (v := 1) hx hb dL_act_101 (by decide) ?_
    refine lv_iload_n hx hb dL_act_102 rfl (lv_at hl 3 rfl) ?_
    refine lv_iload_n hx hb dL_act_103 rfl (lv_at hl 0 rfl) ?_
    refine lv_iconst (v := 5) hx hb dL_act_104 (by decide) ?_
    refine nv_irem hx hb (y / 32) 5 (by omega) (by omega) (by omega) dL_act_105 ?_
    refine iv_ifne hx hb 115 dL_act_106 (by decide) (fun c5 => ?_) (fun c5 => ?_)
    · have hc5 : ¬ (y / 32) % 5 = 0 := fun q => c5 (by rw [q]; rfl)
      refine lv_bipush (v := 12) hx hb dL_act_115 (by decide) ?_
      refine nv_irem hx hb y 12 (by omega) (by omega) (by omega) dL_act_117 ?_
      refine nv_iadd hx hb 1 (y % 12) dL_act_118 ?_
      have hc := o_pass l hlt G cI cS cL ad mp q qn qt qs qH qx (o := o) hg (nI ((1 + (y % 12))))
      rw [hab] at hc
      refine co_callH (As := [.ref (q 0), .int (nI ((1 + (y % 12))))]) (rest := []) hE hC X hP hD hS hA hc cpH_pass aw_465 ⟨Nat.le_of_ble_eq_true rfl, Nat.le_of_ble_eq_true rfl⟩ [0] (cs := [obC q qn qt qs qH qx cI cS ad o]) rfl (by decide) (fun u => [obC q qn qt qs qH qx cI cS ad u]) (fun _ => rfl) (fun _ => rfl) rfl hl.1 rfl (Nat.le_of_ble_eq_true rfl) dL_act_119 ⟨Nat.le_of_ble_eq_true rfl, Nat.le_of_ble_eq_true rfl⟩ (st1 := fun _ => [.long ((passA A (nI ((1 + (y % 12))))).1)]) (fun _ => rfl) (fun u => [obC q qn qt qs qH qx cI cS ad u]) (fun _ => rfl) (fun o ho H locs hP hD hS => ?_)
      obtain ⟨hab, hg⟩ := ho
      have ea : actA A x y = passA A (nI (1 + (y % 12))) := by
        unfold actA
        rw [h20, if_pos (by decide), if_neg hc5]
      refine W.widen (k := 1) (n := 6) (Nat.le_of_ble_eq_true rfl) (Nat.le_of_ble_eq_true rfl) ?_
      rw [← hQQ]
      exact W.lret hx hb hr (ct_endO o ⟨by rw [ea]; exact hab, hg⟩ (by show _ = some (Value.long (actA A x y).1); rw [ea]) hP hD hS) hS.2.2 dL_act_122
    · have hc5 : (y / 32) % 5 = 0 := (nI_eq (by omega) (by omega)).mp (c5.trans nI_0.symm)
      refine lv_sipush (v := 200) hx hb dL_act_109 (by decide) ?_
      refine lv_goto (tgt := 117) hx hb dL_act_112 (by decide) ?_
      refine nv_irem hx hb y 200 (by omega) (by omega) (by omega) dL_act_117 ?_
      refine nv_iadd hx hb 1 (y % 200) dL_act_118 ?_
      have hc := o_pass l hlt G cI cS cL ad mp q qn qt qs qH qx (o := o) hg (nI ((1 + (y % 200))))
      rw [hab] at hc
      refine co_callH (As := [.ref (q 0), .int (nI ((1 + (y % 200))))]) (rest := []) hE hC X hP hD hS hA hc cpH_pass aw_465 ⟨Nat.le_of_ble_eq_true rfl, Nat.le_of_ble_eq_true rfl⟩ [0] (cs := [obC q qn qt qs qH qx cI cS ad o]) rfl (by decide) (fun u => [obC q qn qt qs qH qx cI cS ad u]) (fun _ => rfl) (fun _ => rfl) rfl hl.1 rfl (Nat.le_of_ble_eq_true rfl) dL_act_119 ⟨Nat.le_of_ble_eq_true rfl, Nat.le_of_ble_eq_true rfl⟩ (st1 := fun _ => [.long ((passA A (nI ((1 + (y % 200))))).1)]) (fun _ => rfl) (fun u => [obC q qn qt qs qH qx cI cS ad u]) (fun _ => rfl) (fun o ho H locs hP hD hS => ?_)
      obtain ⟨hab, hg⟩ := ho
      have ea : actA A x y = passA A (nI (1 + (y % 200))) := by
        unfold actA
        rw [h20, if_pos (by decide), if_pos hc5]
      refine W.widen (k := 1) (n := 6) (Nat.le_of_ble_eq_true rfl) (Nat.le_of_ble_eq_true rfl) ?_
      rw [← hQQ]
      exact W.lret hx hb hr (ct_endO o ⟨by rw [ea]; exact hab, hg⟩ (by show _ = some (Value.long (actA A x y).1); rw [ea]) hP hD hS) hS.2.2 dL_act_122
  · rw [h20]
    refine lv_tableIn (off := 91) (tgt := 100) hx hb dL_act_9 (by decide +kernel) (by decide +kernel) (by decide +kernel) (by decide) ?_
    refine lv_aload_n hx hb dL_act_100 rfl (lv_at hl 1 rfl) ?_
    refine lv_iconst (v := 1) hx hb dL_act_101 (by decide) ?_
    refine lv_iload_n hx hb dL_act_102 rfl (lv_at hl 3 rfl) ?_
    refine lv_iload_n hx hb dL_act_103 rfl (lv_at hl 0 rfl) ?_
    refine lv_iconst (v := 5) hx hb dL_act_104 (by decide) ?_
    refine nv_irem hx hb (y / 32) 5 (by omega) (by omega) (by omega) dL_act_105 ?_
    refine iv_ifne hx hb 115 dL_act_106 (by decide) (fun c5 => ?_) (fun c5 => ?_)
    · have hc5 : ¬ (y / 32) % 5 = 0 := fun q => c5 (by rw [q]; rfl)
      refine lv_bipush (v := 12) hx hb dL_act_115 (by decide) ?_
      refine nv_irem hx hb y 12 (by omega) (by omega) (by omega) dL_act_117 ?_
      refine nv_iadd hx hb 1 (y % 12) dL_act_118 ?_
      have hc := o_pass l hlt G cI cS cL ad mp q qn qt qs qH qx (o := o) hg (nI ((1 + (y % 12))))
      rw [hab] at hc
      refine co_callH (As := [.ref (q 0), .int (nI ((1 + (y % 12))))]) (rest := []) hE hC X hP hD hS hA hc cpH_pass aw_465 ⟨Nat.le_of_ble_eq_true rfl, Nat.le_of_ble_eq_true rfl⟩ [0] (cs := [obC q qn qt qs qH qx cI cS ad o]) rfl (by decide) (fun u => [obC q qn qt qs qH qx cI cS ad u]) (fun _ => rfl) (fun _ => rfl) rfl hl.1 rfl (Nat.le_of_ble_eq_true rfl) dL_act_119 ⟨Nat.le_of_ble_eq_true rfl, Nat.le_of_ble_eq_true rfl⟩ (st1 := fun _ => [.long ((passA A (nI ((1 + (y % 12))))).1)]) (fun _ => rfl) (fun u => [obC q qn qt qs qH qx cI cS ad u]) (fun _ => rfl) (fun o ho H locs hP hD hS => ?_)
      obtain ⟨hab, hg⟩ := ho
      have ea : actA A x y = passA A (nI (1 + (y % 12))) := by
        unfold actA
        rw [h20, if_pos (by decide), if_neg hc5]
      refine W.widen (k := 1) (n := 6) (Nat.le_of_ble_eq_true rfl) (Nat.le_of_ble_eq_true rfl) ?_
      rw [← hQQ]
      exact W.lret hx hb hr (ct_endO o ⟨by rw [ea]; exact hab, hg⟩ (by show _ = some (Value.long (actA A x y).1); rw [ea]) hP hD hS) hS.2.2 dL_act_122
    · have hc5 : (y / 32) % 5 = 0 := (nI_eq (by omega) (by omega)).mp (c5.trans nI_0.symm)
      refine lv_sipush (v := 200) hx hb dL_act_109 (by decide) ?_
      refine lv_goto (tgt := 117) hx hb dL_act_112 (by decide) ?_
      refine nv_irem hx hb y 200 (by omega) (by omega) (by omega) dL_act_117 ?_
      refine nv_iadd hx hb 1 (y % 200) dL_act_118 ?_
      have hc := o_pass l hlt G cI cS cL ad mp q qn qt qs qH qx (o := o) hg (nI ((1 + (y % 200))))
      rw [hab] at hc
      refine co_callH (As := [.ref (q 0), .int (nI ((1 + (y % 200))))]) (rest := []) hE hC X hP hD hS hA hc cpH_pass aw_465 ⟨Nat.le_of_ble_eq_true rfl, Nat.le_of_ble_eq_true rfl⟩ [0] (cs := [obC q qn qt qs qH qx cI cS ad o]) rfl (by decide) (fun u => [obC q qn qt qs qH qx cI cS ad u]) (fun _ => rfl) (fun _ => rfl) rfl hl.1 rfl (Nat.le_of_ble_eq_true rfl) dL_act_119 ⟨Nat.le_of_ble_eq_true rfl, Nat.le_of_ble_eq_true rfl⟩ (st1 := fun _ => [.long ((passA A (nI ((1 + (y % 200))))).1)]) (fun _ => rfl) (fun u => [obC q qn qt qs qH qx cI cS ad u]) (fun _ => rfl) (fun o ho H locs hP hD hS => ?_)
      obtain ⟨hab, hg⟩ := ho
      have ea : actA A x y = passA A (nI (1 + (y % 200))) := by
        unfold actA
        rw [h20, if_pos (by decide), if_pos hc5]
      refine W.widen (k := 1) (n := 6) (Nat.le_of_ble_eq_true rfl) (Nat.le_of_ble_eq_true rfl) ?_
      rw [← hQQ]
      exact W.lret hx hb hr (ct_endO o ⟨by rw [ea]; exact hab, hg⟩ (by show _ = some (Value.long (actA A x y).1); rw [ea]) hP hD hS) hS.2.2 dL_act_122
  · rw [h20]
    refine lv_tableIn (off := 91) (tgt := 100) hx hb dL_act_9 (by decide +kernel) (by decide +kernel) (by decide +kernel) (by decide) ?_
    refine lv_aload_n hx hb dL_act_100 rfl (lv_at hl 1 rfl) ?_
    refine lv_iconst (v := 1) hx hb dL_act_101 (by decide) ?_
    refine lv_iload_n hx hb dL_act_102 rfl (lv_at hl 3 rfl) ?_
    refine lv_iload_n hx hb dL_act_103 rfl (lv_at hl 0 rfl) ?_
    refine lv_iconst (v := 5) hx hb dL_act_104 (by decide) ?_
    refine nv_irem hx hb (y / 32) 5 (by omega) (by omega) (by omega) dL_act_105 ?_
    refine iv_ifne hx hb 115 dL_act_106 (by decide) (fun c5 => ?_) (fun c5 => ?_)
    · have hc5 : ¬ (y / 32) % 5 = 0 := fun q => c5 (by rw [q]; rfl)
      refine lv_bipush (v := 12) hx hb dL_act_115 (by decide) ?_
      refine nv_irem hx hb y 12 (by omega) (by omega) (by omega) dL_act_117 ?_
      refine nv_iadd hx hb 1 (y % 12) dL_act_118 ?_
      have hc := o_pass l hlt G cI cS cL ad mp q qn qt qs qH qx (o := o) hg (nI ((1 + (y % 12))))
      rw [hab] at hc
      refine co_callH (As := [.ref (q 0), .int (nI ((1 + (y % 12))))]) (rest := []) hE hC X hP hD hS hA hc cpH_pass aw_465 ⟨Nat.le_of_ble_eq_true rfl, Nat.le_of_ble_eq_true rfl⟩ [0] (cs := [obC q qn qt qs qH qx cI cS ad o]) rfl (by decide) (fun u => [obC q qn qt qs qH qx cI cS ad u]) (fun _ => rfl) (fun _ => rfl) rfl hl.1 rfl (Nat.le_of_ble_eq_true rfl) dL_act_119 ⟨Nat.le_of_ble_eq_true rfl, Nat.le_of_ble_eq_true rfl⟩ (st1 := fun _ => [.long ((passA A (nI ((1 + (y % 12))))).1)]) (fun _ => rfl) (fun u => [obC q qn qt qs qH qx cI cS ad u]) (fun _ => rfl) (fun o ho H locs hP hD hS => ?_)
      obtain ⟨hab, hg⟩ := ho
      have ea : actA A x y = passA A (nI (1 + (y % 12))) := by
        unfold actA
        rw [h20, if_pos (by decide), if_neg hc5]
      refine W.widen (k := 1) (n := 6) (Nat.le_of_ble_eq_true rfl) (Nat.le_of_ble_eq_true rfl) ?_
      rw [← hQQ]
      exact W.lret hx hb hr (ct_endO o ⟨by rw [ea]; exact hab, hg⟩ (by show _ = some (Value.long (actA A x y).1); rw [ea]) hP hD hS) hS.2.2 dL_act_122
    · have hc5 : (y / 32) % 5 = 0 := (nI_eq (by omega) (by omega)).mp (c5.trans nI_0.symm)
      refine lv_sipush (v := 200) hx hb dL_act_109 (by decide) ?_
      refine lv_goto (tgt := 117) hx hb dL_act_112 (by decide) ?_
      refine nv_irem hx hb y 200 (by omega) (by omega) (by omega) dL_act_117 ?_
      refine nv_iadd hx hb 1 (y % 200) dL_act_118 ?_
      have hc := o_pass l hlt G cI cS cL ad mp q qn qt qs qH qx (o := o) hg (nI ((1 + (y % 200))))
      rw [hab] at hc
      refine co_callH (As := [.ref (q 0), .int (nI ((1 + (y % 200))))]) (rest := []) hE hC X hP hD hS hA hc cpH_pass aw_465 ⟨Nat.le_of_ble_eq_true rfl, Nat.le_of_ble_eq_true rfl⟩ [0] (cs := [obC q qn qt qs qH qx cI cS ad o]) rfl (by decide) (fun u => [obC q qn qt qs qH qx cI cS ad u]) (fun _ => rfl) (fun _ => rfl) rfl hl.1 rfl (Nat.le_of_ble_eq_true rfl) dL_act_119 ⟨Nat.le_of_ble_eq_true rfl, Nat.le_of_ble_eq_true rfl⟩ (st1 := fun _ => [.long ((passA A (nI ((1 + (y % 200))))).1)]) (fun _ => rfl) (fun u => [obC q qn qt qs qH qx cI cS ad u]) (fun _ => rfl) (fun o ho H locs hP hD hS => ?_)
      obtain ⟨hab, hg⟩ := ho
      have ea : actA A x y = passA A (nI (1 + (y % 200))) := by
        unfold actA
        rw [h20, if_pos (by decide), if_pos hc5]
      refine W.widen (k := 1) (n := 6) (Nat.le_of_ble_eq_true rfl) (Nat.le_of_ble_eq_true rfl) ?_
      rw [← hQQ]
      exact W.lret hx hb hr (ct_endO o ⟨by rw [ea]; exact hab, hg⟩ (by show _ = some (Value.long (actA A x y).1); rw [ea]) hP hD hS) hS.2.2 dL_act_122
  · rw [h20]
    refine lv_tableIn (off := 91) (tgt := 100) hx hb dL_act_9 (by decide +kernel) (by decide +kernel) (by decide +kernel) (by decide) ?_
    refine lv_aload_n hx hb dL_act_100 rfl (lv_at hl 1 rfl) ?_
    refine lv_iconst (v := 1) hx hb dL_act_101 (by decide) ?_
    refine lv_iload_n hx hb dL_act_102 rfl (lv_at hl 3 rfl) ?_
    refine lv_iload_n hx hb dL_act_103 rfl (lv_at hl 0 rfl) ?_
    refine lv_iconst (v := 5) hx hb dL_act_104 (by decide) ?_
    refine nv_irem hx hb (y / 32) 5 (by omega) (by omega) (by omega) dL_act_105 ?_
    refine iv_ifne hx hb 115 dL_act_106 (by decide) (fun c5 => ?_) (fun c5 => ?_)
    · have hc5 : ¬ (y / 32) % 5 = 0 := fun q => c5 (by rw [q]; rfl)
      refine lv_bipush (v := 12) hx hb dL_act_115 (by decide) ?_
      refine nv_irem hx hb y 12 (by omega) (by omega) (by omega) dL_act_117 ?_
      refine nv_iadd hx hb 1 (y % 12) dL_act_118 ?_
      have hc := o_pass l hlt G cI cS cL ad mp q qn qt qs qH qx (o := o) hg (nI ((1 + (y % 12))))
      rw [hab] at hc
      refine co_callH (As := [.ref (q 0), .int (nI ((1 + (y % 12))))]) (rest := []) hE hC X hP hD hS hA hc cpH_pass aw_465 ⟨Nat.le_of_ble_eq_true rfl, Nat.le_of_ble_eq_true rfl⟩ [0] (cs := [obC q qn qt qs qH qx cI cS ad o]) rfl (by decide) (fun u => [obC q qn qt qs qH qx cI cS ad u]) (fun _ => rfl) (fun _ => rfl) rfl hl.1 rfl (Nat.le_of_ble_eq_true rfl) dL_act_119 ⟨Nat.le_of_ble_eq_true rfl, Nat.le_of_ble_eq_true rfl⟩ (st1 := fun _ => [.long ((passA A (nI ((1 + (y % 12))))).1)]) (fun _ => rfl) (fun u => [obC q qn qt qs qH qx cI cS ad u]) (fun _ => rfl) (fun o ho H locs hP hD hS => ?_)
      obtain ⟨hab, hg⟩ := ho
      have ea : actA A x y = passA A (nI (1 + (y % 12))) := by
        unfold actA
        rw [h20, if_pos (by decide), if_neg hc5]
      refine W.widen (k := 1) (n := 6) (Nat.le_of_ble_eq_true rfl) (Nat.le_of_ble_eq_true rfl) ?_
      rw [← hQQ]
      exact W.lret hx hb hr (ct_endO o ⟨by rw [ea]; exact hab, hg⟩ (by show _ = some (Value.long (actA A x y).1); rw [ea]) hP hD hS) hS.2.2 dL_act_122
    · have hc5 : (y / 32) % 5 = 0 := (nI_eq (by omega) (by omega)).mp (c5.trans nI_0.symm)
      refine lv_sipush (v := 200) hx hb dL_act_109 (by decide) ?_
      refine lv_goto (tgt := 117) hx hb dL_act_112 (by decide) ?_
      refine nv_irem hx hb y 200 (by omega) (by omega) (by omega) dL_act_117 ?_
      refine nv_iadd hx hb 1 (y % 200) dL_act_118 ?_
      have hc := o_pass l hlt G cI cS cL ad mp q qn qt qs qH qx (o := o) hg (nI ((1 + (y % 200))))
      rw [hab] at hc
      refine co_callH (As := [.ref (q 0), .int (nI ((1 + (y % 200))))]) (rest := []) hE hC X hP hD hS hA hc cpH_pass aw_465 ⟨Nat.le_of_ble_eq_true rfl, Nat.le_of_ble_eq_true rfl⟩ [0] (cs := [obC q qn qt qs qH qx cI cS ad o]) rfl (by decide) (fun u => [obC q qn qt qs qH qx cI cS ad u]) (fun _ => rfl) (fun _ => rfl) rfl hl.1 rfl (Nat.le_of_ble_eq_true rfl) dL_act_119 ⟨Nat.le_of_ble_eq_true rfl, Nat.le_of_ble_eq_true rfl⟩ (st1 := fun _ => [.long ((passA A (nI ((1 + (y % 200))))).1)]) (fun _ => rfl) (fun u => [obC q qn qt qs qH qx cI cS ad u]) (fun _ => rfl) (fun o ho H locs hP hD hS => ?_)
      obtain ⟨hab, hg⟩ := ho
      have ea : actA A x y = passA A (nI (1 + (y % 200))) := by
        unfold actA
        rw [h20, if_pos (by decide), if_pos hc5]
      refine W.widen (k := 1) (n := 6) (Nat.le_of_ble_eq_true rfl) (Nat.le_of_ble_eq_true rfl) ?_
      rw [← hQQ]
      exact W.lret hx hb hr (ct_endO o ⟨by rw [ea]; exact hab, hg⟩ (by show _ = some (Value.long (actA A x y).1); rw [ea]) hP hD hS) hS.2.2 dL_act_122
  · rw [h20]
    refine lv_tableIn (off := 114) (tgt := 123) hx hb dL_act_9 (by decide +kernel) (by decide +kernel) (by decide +kernel) (by decide) ?_
    refine lv_aload_n hx hb dL_act_123 rfl (lv_at hl 1 rfl) ?_
    refine lv_iload_n hx hb dL_act_124 rfl (lv_at hl 3 rfl) ?_
    refine lv_bipush (v := 8) hx hb dL_act_125 (by decide) ?_
    refine nv_irem hx hb y 8 (by omega) (by omega) (by omega) dL_act_127 ?_
    refine lv_iload_n hx hb dL_act_128 rfl (lv_at hl 0 rfl) ?_
    refine lv_sipush (v := 1001) hx hb dL_act_129 (by decide) ?_
    refine nv_irem hx hb (y / 32) 1001 (by omega) (by omega) (by omega) dL_act_132 ?_
    refine lv_sipush (v := 500) hx hb dL_act_133 (by decide) ?_
    refine lv_isub hx hb dL_act_136 ?_
    have hc := o_kick l hlt G cI cS cL ad mp q qn qt qs qH qx (o := o) hg (nI ((y % 8))) ((nI (((y / 32) % 1001))) - (500 : Int32))
    rw [hab] at hc
    refine co_callH (As := [.ref (q 0), .int (nI ((y % 8))), .int ((nI (((y / 32) % 1001))) - (500 : Int32))]) (rest := []) hE hC X hP hD hS hA hc cpH_kick aw_515 ⟨Nat.le_of_ble_eq_true rfl, Nat.le_of_ble_eq_true rfl⟩ [0] (cs := [obC q qn qt qs qH qx cI cS ad o]) rfl (by decide) (fun u => [obC q qn qt qs qH qx cI cS ad u]) (fun _ => rfl) (fun _ => rfl) rfl hl.1 rfl (Nat.le_of_ble_eq_true rfl) dL_act_137 ⟨Nat.le_of_ble_eq_true rfl, Nat.le_of_ble_eq_true rfl⟩ (st1 := fun _ => [.long ((kickA A (nI ((y % 8))) ((nI (((y / 32) % 1001))) - (500 : Int32))).1)]) (fun _ => rfl) (fun u => [obC q qn qt qs qH qx cI cS ad u]) (fun _ => rfl) (fun o ho H locs hP hD hS => ?_)
    obtain ⟨hab, hg⟩ := ho
    have ea : actA A x y = kickA A (nI (y % 8)) (nI ((y / 32) % 1001) - (500 : Int32)) := by
      unfold actA
      rw [h20, if_neg (by decide), if_pos (by decide)]
    refine W.widen (k := 1) (n := 6) (Nat.le_of_ble_eq_true rfl) (Nat.le_of_ble_eq_true rfl) ?_
    rw [← hQQ]
    exact W.lret hx hb hr (ct_endO o ⟨by rw [ea]; exact hab, hg⟩ (by show _ = some (Value.long (actA A x y).1); rw [ea]) hP hD hS) hS.2.2 dL_act_140
  · rw [h20]
    refine lv_tableIn (off := 114) (tgt := 123) hx hb dL_act_9 (by decide +kernel) (by decide +kernel) (by decide +kernel) (by decide) ?_
    refine lv_aload_n hx hb dL_act_123 rfl (lv_at hl 1 rfl) ?_
    refine lv_iload_n hx hb dL_act_124 rfl (lv_at hl 3 rfl) ?_
    refine lv_bipush (v := 8) hx hb dL_act_125 (by decide) ?_
    refine nv_irem hx hb y 8 (by omega) (by omega) (by omega) dL_act_127 ?_
    refine lv_iload_n hx hb dL_act_128 rfl (lv_at hl 0 rfl) ?_
    refine lv_sipush (v := 1001) hx hb dL_act_129 (by decide) ?_
    refine nv_irem hx hb (y / 32) 1001 (by omega) (by omega) (by omega) dL_act_132 ?_
    refine lv_sipush (v := 500) hx hb dL_act_133 (by decide) ?_
    refine lv_isub hx hb dL_act_136 ?_
    have hc := o_kick l hlt G cI cS cL ad mp q qn qt qs qH qx (o := o) hg (nI ((y % 8))) ((nI (((y / 32) % 1001))) - (500 : Int32))
    rw [hab] at hc
    refine co_callH (As := [.ref (q 0), .int (nI ((y % 8))), .int ((nI (((y / 32) % 1001))) - (500 : Int32))]) (rest := []) hE hC X hP hD hS hA hc cpH_kick aw_515 ⟨Nat.le_of_ble_eq_true rfl, Nat.le_of_ble_eq_true rfl⟩ [0] (cs := [obC q qn qt qs qH qx cI cS ad o]) rfl (by decide) (fun u => [obC q qn qt qs qH qx cI cS ad u]) (fun _ => rfl) (fun _ => rfl) rfl hl.1 rfl (Nat.le_of_ble_eq_true rfl) dL_act_137 ⟨Nat.le_of_ble_eq_true rfl, Nat.le_of_ble_eq_true rfl⟩ (st1 := fun _ => [.long ((kickA A (nI ((y % 8))) ((nI (((y / 32) % 1001))) - (500 : Int32))).1)]) (fun _ => rfl) (fun u => [obC q qn qt qs qH qx cI cS ad u]) (fun _ => rfl) (fun o ho H locs hP hD hS => ?_)
    obtain ⟨hab, hg⟩ := ho
    have ea : actA A x y = kickA A (nI (y % 8)) (nI ((y / 32) % 1001) - (500 : Int32)) := by
      unfold actA
      rw [h20, if_neg (by decide), if_pos (by decide)]
    refine W.widen (k := 1) (n := 6) (Nat.le_of_ble_eq_true rfl) (Nat.le_of_ble_eq_true rfl) ?_
    rw [← hQQ]
    exact W.lret hx hb hr (ct_endO o ⟨by rw [ea]; exact hab, hg⟩ (by show _ = some (Value.long (actA A x y).1); rw [ea]) hP hD hS) hS.2.2 dL_act_140
  · rw [h20]
    refine lv_tableIn (off := 132) (tgt := 141) hx hb dL_act_9 (by decide +kernel) (by decide +kernel) (by decide +kernel) (by decide) ?_
    refine lv_aload_n hx hb dL_act_141 rfl (lv_at hl 1 rfl) ?_
    refine lv_iload_n hx hb dL_act_142 rfl (lv_at hl 3 rfl) ?_
    refine lv_bipush (v := 8) hx hb dL_act_143 (by decide) ?_
    refine nv_irem hx hb y 8 (by omega) (by omega) (by omega) dL_act_145 ?_
    refine lv_iload_n hx hb dL_act_146 rfl (lv_at hl 0 rfl) ?_
    refine lv_iconst (v := 3) hx hb dL_act_147 (by decide) ?_
    refine nv_irem hx hb (y / 32) 3 (by omega) (by omega) (by omega) dL_act_148 ?_
    have hc := o_move l hlt G cI cS cL ad mp q qn qt qs qH qx (o := o) hg (nI ((y % 8))) (nI (((y / 32) % 3)))
    rw [hab] at hc
    refine co_callH (As := [.ref (q 0), .int (nI ((y % 8))), .int (nI (((y / 32) % 3)))]) (rest := []) hE hC X hP hD hS hA hc cpH_move aw_530 ⟨Nat.le_of_ble_eq_true rfl, Nat.le_of_ble_eq_true rfl⟩ [0] (cs := [obC q qn qt qs qH qx cI cS ad o]) rfl (by decide) (fun u => [obC q qn qt qs qH qx cI cS ad u]) (fun _ => rfl) (fun _ => rfl) rfl hl.1 rfl (Nat.le_of_ble_eq_true rfl) dL_act_149 ⟨Nat.le_of_ble_eq_true rfl, Nat.le_of_ble_eq_true rfl⟩ (st1 := fun _ => [.long ((moveA A (nI ((y % 8))) (nI (((y / 32) % 3)))).1)]) (fun _ => rfl) (fun u => [obC q qn qt qs qH qx cI cS ad u]) (fun _ => rfl) (fun o ho H locs hP hD hS => ?_)
    obtain ⟨hab, hg⟩ := ho
    have ea : actA A x y = moveA A (nI (y % 8)) (nI ((y / 32) % 3)) := by
      unfold actA
      rw [h20, if_neg (by decide), if_neg (by decide), if_pos (by decide)]
    refine W.widen (k := 1) (n := 6) (Nat.le_of_ble_eq_true rfl) (Nat.le_of_ble_eq_true rfl) ?_
    rw [← hQQ]
    exact W.lret hx hb hr (ct_endO o ⟨by rw [ea]; exact hab, hg⟩ (by show _ = some (Value.long (actA A x y).1); rw [ea]) hP hD hS) hS.2.2 dL_act_152
  · rw [h20]
    refine lv_tableIn (off := 132) (tgt := 141) hx hb dL_act_9 (by decide +kernel) (by decide +kernel) (by decide +kernel) (by decide) ?_
    refine lv_aload_n hx hb dL_act_141 rfl (lv_at hl 1 rfl) ?_
    refine lv_iload_n hx hb dL_act_142 rfl (lv_at hl 3 rfl) ?_
    refine lv_bipush (v := 8) hx hb dL_act_143 (by decide) ?_
    refine nv_irem hx hb y 8 (by omega) (by omega) (by omega) dL_act_145 ?_
    refine lv_iload_n hx hb dL_act_146 rfl (lv_at hl 0 rfl) ?_
    refine lv_iconst (v := 3) hx hb dL_act_147 (by decide) ?_
    refine nv_irem hx hb (y / 32) 3 (by omega) (by omega) (by omega) dL_act_148 ?_
    have hc := o_move l hlt G cI cS cL ad mp q qn qt qs qH qx (o := o) hg (nI ((y % 8))) (nI (((y / 32) % 3)))
    rw [hab] at hc
    refine co_callH (As := [.ref (q 0), .int (nI ((y % 8))), .int (nI (((y / 32) % 3)))]) (rest := []) hE hC X hP hD hS hA hc cpH_move aw_530 ⟨Nat.le_of_ble_eq_true rfl, Nat.le_of_ble_eq_true rfl⟩ [0] (cs := [obC q qn qt qs qH qx cI cS ad o]) rfl (by decide) (fun u => [obC q qn qt qs qH qx cI cS ad u]) (fun _ => rfl) (fun _ => rfl) rfl hl.1 rfl (Nat.le_of_ble_eq_true rfl) dL_act_149 ⟨Nat.le_of_ble_eq_true rfl, Nat.le_of_ble_eq_true rfl⟩ (st1 := fun _ => [.long ((moveA A (nI ((y % 8))) (nI (((y / 32) % 3)))).1)]) (fun _ => rfl) (fun u => [obC q qn qt qs qH qx cI cS ad u]) (fun _ => rfl) (fun o ho H locs hP hD hS => ?_)
    obtain ⟨hab, hg⟩ := ho
    have ea : actA A x y = moveA A (nI (y % 8)) (nI ((y / 32) % 3)) := by
      unfold actA
      rw [h20, if_neg (by decide), if_neg (by decide), if_pos (by decide)]
    refine W.widen (k := 1) (n := 6) (Nat.le_of_ble_eq_true rfl) (Nat.le_of_ble_eq_true rfl) ?_
    rw [← hQQ]
    exact W.lret hx hb hr (ct_endO o ⟨by rw [ea]; exact hab, hg⟩ (by show _ = some (Value.long (actA A x y).1); rw [ea]) hP hD hS) hS.2.2 dL_act_152
  · rw [h20]
    refine lv_tableIn (off := 144) (tgt := 153) hx hb dL_act_9 (by decide +kernel) (by decide +kernel) (by decide +kernel) (by decide) ?_
    refine lv_aload_n hx hb dL_act_153 rfl (lv_at hl 1 rfl) ?_
    refine lv_iload_n hx hb dL_act_154 rfl (lv_at hl 3 rfl) ?_
    refine lv_bipush (v := 8) hx hb dL_act_155 (by decide) ?_
    refine nv_irem hx hb y 8 (by omega) (by omega) (by omega) dL_act_157 ?_
    have hc := o_wind l hlt G cI cS cL ad mp q qn qt qs qH qx (o := o) hg (nI ((y % 8)))
    rw [hab] at hc
    refine co_callH (As := [.ref (q 0), .int (nI ((y % 8)))]) (rest := []) hE hC X hP hD hS hA hc cpH_wind aw_562 ⟨Nat.le_of_ble_eq_true rfl, Nat.le_of_ble_eq_true rfl⟩ [0] (cs := [obC q qn qt qs qH qx cI cS ad o]) rfl (by decide) (fun u => [obC q qn qt qs qH qx cI cS ad u]) (fun _ => rfl) (fun _ => rfl) rfl hl.1 rfl (Nat.le_of_ble_eq_true rfl) dL_act_158 ⟨Nat.le_of_ble_eq_true rfl, Nat.le_of_ble_eq_true rfl⟩ (st1 := fun _ => [.long ((windA A (nI ((y % 8)))).1)]) (fun _ => rfl) (fun u => [obC q qn qt qs qH qx cI cS ad u]) (fun _ => rfl) (fun o ho H locs hP hD hS => ?_)
    obtain ⟨hab, hg⟩ := ho
    have ea : actA A x y = windA A (nI (y % 8)) := by
      unfold actA
      rw [h20, if_neg (by decide), if_neg (by decide), if_neg (by decide), if_pos (by decide)]
    refine W.widen (k := 1) (n := 6) (Nat.le_of_ble_eq_true rfl) (Nat.le_of_ble_eq_true rfl) ?_
    rw [← hQQ]
    exact W.lret hx hb hr (ct_endO o ⟨by rw [ea]; exact hab, hg⟩ (by show _ = some (Value.long (actA A x y).1); rw [ea]) hP hD hS) hS.2.2 dL_act_161
  · rw [h20]
    refine lv_tableIn (off := 153) (tgt := 162) hx hb dL_act_9 (by decide +kernel) (by decide +kernel) (by decide +kernel) (by decide) ?_
    refine lv_aload_n hx hb dL_act_162 rfl (lv_at hl 1 rfl) ?_
    refine lv_iload_n hx hb dL_act_163 rfl (lv_at hl 3 rfl) ?_
    refine lv_bipush (v := 8) hx hb dL_act_164 (by decide) ?_
    refine nv_irem hx hb y 8 (by omega) (by omega) (by omega) dL_act_166 ?_
    refine lv_bipush (v := 10) hx hb dL_act_167 (by decide) ?_
    refine lv_iload_n hx hb dL_act_169 rfl (lv_at hl 0 rfl) ?_
    refine lv_iload_n hx hb dL_act_170 rfl (lv_at hl 3 rfl) ?_
    refine lv_iconst (v := 3) hx hb dL_act_171 (by decide) ?_
    refine nv_irem hx hb y 3 (by omega) (by omega) (by omega) dL_act_172 ?_
    refine iv_ifne hx hb 181 dL_act_173 (by decide) (fun c3 => ?_) (fun c3 => ?_)
    · have hc3 : ¬ y % 3 = 0 := fun q => c3 (by rw [q]; rfl)
      refine lv_iconst (v := 4) hx hb dL_act_181 (by decide) ?_
      refine nv_irem hx hb (y / 32) 4 (by omega) (by omega) (by omega) dL_act_182 ?_
      refine nv_iadd hx hb 10 ((y / 32) % 4) dL_act_183 ?_
      have hc := o_speed l hlt G cI cS cL ad mp q qn qt qs qH qx (o := o) hg (nI ((y % 8))) (nI ((10 + ((y / 32) % 4))))
      rw [hab] at hc
      refine co_callH (As := [.ref (q 0), .int (nI ((y % 8))), .int (nI ((10 + ((y / 32) % 4))))]) (rest := []) hE hC X hP hD hS hA hc cpH_speed aw_573 ⟨Nat.le_of_ble_eq_true rfl, Nat.le_of_ble_eq_true rfl⟩ [0] (cs := [obC q qn qt qs qH qx cI cS ad o]) rfl (by decide) (fun u => [obC q qn qt qs qH qx cI cS ad u]) (fun _ => rfl) (fun _ => rfl) rfl hl.1 rfl (Nat.le_of_ble_eq_true rfl) dL_act_184 ⟨Nat.le_of_ble_eq_true rfl, Nat.le_of_ble_eq_true rfl⟩ (st1 := fun _ => [.long ((speedA A (nI ((y % 8))) (nI ((10 + ((y / 32) % 4))))).1)]) (fun _ => rfl) (fun u => [obC q qn qt qs qH qx cI cS ad u]) (fun _ => rfl) (fun o ho H locs hP hD hS => ?_)
      obtain ⟨hab, hg⟩ := ho
      have ea : actA A x y = speedA A (nI (y % 8)) (nI (10 + ((y / 32) % 4))) := by
        unfold actA
        rw [h20, if_neg (by decide), if_neg (by decide), if_neg (by decide), if_neg (by decide), if_pos (by decide), if_neg hc3]
      refine W.widen (k := 1) (n := 6) (Nat.le_of_ble_eq_true rfl) (Nat.le_of_ble_eq_true rfl) ?_
      rw [← hQQ]
      exact W.lret hx hb hr (ct_endO o ⟨by rw [ea]; exact hab, hg⟩ (by show _ = some (Value.long (actA A x y).1); rw [ea]) hP hD hS) hS.2.2 dL_act_187
    · have hc3 : y % 3 = 0 := (nI_eq (by omega) (by omega)).mp (c3.trans nI_0.symm)
      refine lv_bipush (v := 51) hx hb dL_act_176 (by decide) ?_
      refine lv_goto (tgt := 182) hx hb dL_act_178 (by decide) ?_
      refine nv_irem hx hb (y / 32) 51 (by omega) (by omega) (by omega) dL_act_182 ?_
      refine nv_iadd hx hb 10 ((y / 32) % 51) dL_act_183 ?_
      have hc := o_speed l hlt G cI cS cL ad mp q qn qt qs qH qx (o := o) hg (nI ((y % 8))) (nI ((10 + ((y / 32) % 51))))
      rw [hab] at hc
      refine co_callH (As := [.ref (q 0), .int (nI ((y % 8))), .int (nI ((10 + ((y / 32) % 51))))]) (rest := []) hE hC X hP hD hS hA hc cpH_speed aw_573 ⟨Nat.le_of_ble_eq_true rfl, Nat.le_of_ble_eq_true rfl⟩ [0] (cs := [obC q qn qt qs qH qx cI cS ad o]) rfl (by decide) (fun u => [obC q qn qt qs qH qx cI cS ad u]) (fun _ => rfl) (fun _ => rfl) rfl hl.1 rfl (Nat.le_of_ble_eq_true rfl) dL_act_184 ⟨Nat.le_of_ble_eq_true rfl, Nat.le_of_ble_eq_true rfl⟩ (st1 := fun _ => [.long ((speedA A (nI ((y % 8))) (nI ((10 + ((y / 32) % 51))))).1)]) (fun _ => rfl) (fun u => [obC q qn qt qs qH qx cI cS ad u]) (fun _ => rfl) (fun o ho H locs hP hD hS => ?_)
      obtain ⟨hab, hg⟩ := ho
      have ea : actA A x y = speedA A (nI (y % 8)) (nI (10 + ((y / 32) % 51))) := by
        unfold actA
        rw [h20, if_neg (by decide), if_neg (by decide), if_neg (by decide), if_neg (by decide), if_pos (by decide), if_pos hc3]
      refine W.widen (k := 1) (n := 6) (Nat.le_of_ble_eq_true rfl) (Nat.le_of_ble_eq_true rfl) ?_
      rw [← hQQ]
      exact W.lret hx hb hr (ct_endO o ⟨by rw [ea]; exact hab, hg⟩ (by show _ = some (Value.long (actA A x y).1); rw [ea]) hP hD hS) hS.2.2 dL_act_187
  · rw [h20]
    refine lv_tableIn (off := 153) (tgt := 162) hx hb dL_act_9 (by decide +kernel) (by decide +kernel) (by decide +kernel) (by decide) ?_
    refine lv_aload_n hx hb dL_act_162 rfl (lv_at hl 1 rfl) ?_
    refine lv_iload_n hx hb dL_act_163 rfl (lv_at hl 3 rfl) ?_
    refine lv_bipush (v := 8) hx hb dL_act_164 (by decide) ?_
    refine nv_irem hx hb y 8 (by omega) (by omega) (by omega) dL_act_166 ?_
    refine lv_bipush (v := 10) hx hb dL_act_167 (by decide) ?_
    refine lv_iload_n hx hb dL_act_169 rfl (lv_at hl 0 rfl) ?_
    refine lv_iload_n hx hb dL_act_170 rfl (lv_at hl 3 rfl) ?_
    refine lv_iconst (v := 3) hx hb dL_act_171 (by decide) ?_
    refine nv_irem hx hb y 3 (by omega) (by omega) (by omega) dL_act_172 ?_
    refine iv_ifne hx hb 181 dL_act_173 (by decide) (fun c3 => ?_) (fun c3 => ?_)
    · have hc3 : ¬ y % 3 = 0 := fun q => c3 (by rw [q]; rfl)
      refine lv_iconst (v := 4) hx hb dL_act_181 (by decide) ?_
      refine nv_irem hx hb (y / 32) 4 (by omega) (by omega) (by omega) dL_act_182 ?_
      refine nv_iadd hx hb 10 ((y / 32) % 4) dL_act_183 ?_
      have hc := o_speed l hlt G cI cS cL ad mp q qn qt qs qH qx (o := o) hg (nI ((y % 8))) (nI ((10 + ((y / 32) % 4))))
      rw [hab] at hc
      refine co_callH (As := [.ref (q 0), .int (nI ((y % 8))), .int (nI ((10 + ((y / 32) % 4))))]) (rest := []) hE hC X hP hD hS hA hc cpH_speed aw_573 ⟨Nat.le_of_ble_eq_true rfl, Nat.le_of_ble_eq_true rfl⟩ [0] (cs := [obC q qn qt qs qH qx cI cS ad o]) rfl (by decide) (fun u => [obC q qn qt qs qH qx cI cS ad u]) (fun _ => rfl) (fun _ => rfl) rfl hl.1 rfl (Nat.le_of_ble_eq_true rfl) dL_act_184 ⟨Nat.le_of_ble_eq_true rfl, Nat.le_of_ble_eq_true rfl⟩ (st1 := fun _ => [.long ((speedA A (nI ((y % 8))) (nI ((10 + ((y / 32) % 4))))).1)]) (fun _ => rfl) (fun u => [obC q qn qt qs qH qx cI cS ad u]) (fun _ => rfl) (fun o ho H locs hP hD hS => ?_)
      obtain ⟨hab, hg⟩ := ho
      have ea : actA A x y = speedA A (nI (y % 8)) (nI (10 + ((y / 32) % 4))) := by
        unfold actA
        rw [h20, if_neg (by decide), if_neg (by decide), if_neg (by decide), if_neg (by decide), if_pos (by decide), if_neg hc3]
      refine W.widen (k := 1) (n := 6) (Nat.le_of_ble_eq_true rfl) (Nat.le_of_ble_eq_true rfl) ?_
      rw [← hQQ]
      exact W.lret hx hb hr (ct_endO o ⟨by rw [ea]; exact hab, hg⟩ (by show _ = some (Value.long (actA A x y).1); rw [ea]) hP hD hS) hS.2.2 dL_act_187
    · have hc3 : y % 3 = 0 := (nI_eq (by omega) (by omega)).mp (c3.trans nI_0.symm)
      refine lv_bipush (v := 51) hx hb dL_act_176 (by decide) ?_
      refine lv_goto (tgt := 182) hx hb dL_act_178 (by decide) ?_
      refine nv_irem hx hb (y / 32) 51 (by omega) (by omega) (by omega) dL_act_182 ?_
      refine nv_iadd hx hb 10 ((y / 32) % 51) dL_act_183 ?_
      have hc := o_speed l hlt G cI cS cL ad mp q qn qt qs qH qx (o := o) hg (nI ((y % 8))) (nI ((10 + ((y / 32) % 51))))
      rw [hab] at hc
      refine co_callH (As := [.ref (q 0), .int (nI ((y % 8))), .int (nI ((10 + ((y / 32) % 51))))]) (rest := []) hE hC X hP hD hS hA hc cpH_speed aw_573 ⟨Nat.le_of_ble_eq_true rfl, Nat.le_of_ble_eq_true rfl⟩ [0] (cs := [obC q qn qt qs qH qx cI cS ad o]) rfl (by decide) (fun u => [obC q qn qt qs qH qx cI cS ad u]) (fun _ => rfl) (fun _ => rfl) rfl hl.1 rfl (Nat.le_of_ble_eq_true rfl) dL_act_184 ⟨Nat.le_of_ble_eq_true rfl, Nat.le_of_ble_eq_true rfl⟩ (st1 := fun _ => [.long ((speedA A (nI ((y % 8))) (nI ((10 + ((y / 32) % 51))))).1)]) (fun _ => rfl) (fun u => [obC q qn qt qs qH qx cI cS ad u]) (fun _ => rfl) (fun o ho H locs hP hD hS => ?_)
      obtain ⟨hab, hg⟩ := ho
      have ea : actA A x y = speedA A (nI (y % 8)) (nI (10 + ((y / 32) % 51))) := by
        unfold actA
        rw [h20, if_neg (by decide), if_neg (by decide), if_neg (by decide), if_neg (by decide), if_pos (by decide), if_pos hc3]
      refine W.widen (k := 1) (n := 6) (Nat.le_of_ble_eq_true rfl) (Nat.le_of_ble_eq_true rfl) ?_
      rw [← hQQ]
      exact W.lret hx hb hr (ct_endO o ⟨by rw [ea]; exact hab, hg⟩ (by show _ = some (Value.long (actA A x y).1); rw [ea]) hP hD hS) hS.2.2 dL_act_187
  · rw [h20]
    refine lv_tableIn (off := 179) (tgt := 188) hx hb dL_act_9 (by decide +kernel) (by decide +kernel) (by decide +kernel) (by decide) ?_
    refine lv_aload_n hx hb dL_act_188 rfl (lv_at hl 1 rfl) ?_
    refine lv_iload_n hx hb dL_act_189 rfl (lv_at hl 3 rfl) ?_
    refine lv_iconst (v := 3) hx hb dL_act_190 (by decide) ?_
    refine nv_irem hx hb y 3 (by omega) (by omega) (by omega) dL_act_191 ?_
    refine lv_iload_n hx hb dL_act_192 rfl (lv_at hl 0 rfl) ?_
    refine lv_bipush (v := 21) hx hb dL_act_193 (by decide) ?_
    refine nv_irem hx hb (y / 32) 21 (by omega) (by omega) (by omega) dL_act_195 ?_
    have hc := o_give l hlt G cI cS cL ad mp q qn qt qs qH qx (o := o) hg (nI ((y % 3))) (nI (((y / 32) % 21)))
    rw [hab] at hc
    refine co_callH (As := [.ref (q 0), .int (nI ((y % 3))), .int (nI (((y / 32) % 21)))]) (rest := []) hE hC X hP hD hS hA hc cpH_give aw_581 ⟨Nat.le_of_ble_eq_true rfl, Nat.le_of_ble_eq_true rfl⟩ [0] (cs := [obC q qn qt qs qH qx cI cS ad o]) rfl (by decide) (fun u => [obC q qn qt qs qH qx cI cS ad u]) (fun _ => rfl) (fun _ => rfl) rfl hl.1 rfl (Nat.le_of_ble_eq_true rfl) dL_act_196 ⟨Nat.le_of_ble_eq_true rfl, Nat.le_of_ble_eq_true rfl⟩ (st1 := fun _ => [.long ((giveA A (nI ((y % 3))) (nI (((y / 32) % 21)))).1)]) (fun _ => rfl) (fun u => [obC q qn qt qs qH qx cI cS ad u]) (fun _ => rfl) (fun o ho H locs hP hD hS => ?_)
    obtain ⟨hab, hg⟩ := ho
    have ea : actA A x y = giveA A (nI (y % 3)) (nI ((y / 32) % 21)) := by
      unfold actA
      rw [h20, if_neg (by decide), if_neg (by decide), if_neg (by decide), if_neg (by decide), if_neg (by decide), if_pos (by decide)]
    refine W.widen (k := 1) (n := 6) (Nat.le_of_ble_eq_true rfl) (Nat.le_of_ble_eq_true rfl) ?_
    rw [← hQQ]
    exact W.lret hx hb hr (ct_endO o ⟨by rw [ea]; exact hab, hg⟩ (by show _ = some (Value.long (actA A x y).1); rw [ea]) hP hD hS) hS.2.2 dL_act_199
  · rw [h20]
    refine lv_tableIn (off := 191) (tgt := 200) hx hb dL_act_9 (by decide +kernel) (by decide +kernel) (by decide +kernel) (by decide) ?_
    refine lv_aload_n hx hb dL_act_200 rfl (lv_at hl 1 rfl) ?_
    refine lv_iload_n hx hb dL_act_201 rfl (lv_at hl 3 rfl) ?_
    refine lv_iconst (v := 3) hx hb dL_act_202 (by decide) ?_
    refine nv_irem hx hb y 3 (by omega) (by omega) (by omega) dL_act_203 ?_
    refine lv_iload_n hx hb dL_act_204 rfl (lv_at hl 0 rfl) ?_
    refine lv_bipush (v := 60) hx hb dL_act_205 (by decide) ?_
    refine nv_irem hx hb (y / 32) 60 (by omega) (by omega) (by omega) dL_act_207 ?_
    have hc := o_set l hlt G cI cS cL ad mp q qn qt qs qH qx (o := o) hg (nI ((y % 3))) (nI (((y / 32) % 60)))
    rw [hab] at hc
    refine co_callH (As := [.ref (q 0), .int (nI ((y % 3))), .int (nI (((y / 32) % 60)))]) (rest := []) hE hC X hP hD hS hA hc cpH_set aw_589 ⟨Nat.le_of_ble_eq_true rfl, Nat.le_of_ble_eq_true rfl⟩ [0] (cs := [obC q qn qt qs qH qx cI cS ad o]) rfl (by decide) (fun u => [obC q qn qt qs qH qx cI cS ad u]) (fun _ => rfl) (fun _ => rfl) rfl hl.1 rfl (Nat.le_of_ble_eq_true rfl) dL_act_208 ⟨Nat.le_of_ble_eq_true rfl, Nat.le_of_ble_eq_true rfl⟩ (st1 := fun _ => [.long ((setA A (nI ((y % 3))) (nI (((y / 32) % 60)))).1)]) (fun _ => rfl) (fun u => [obC q qn qt qs qH qx cI cS ad u]) (fun _ => rfl) (fun o ho H locs hP hD hS => ?_)
    obtain ⟨hab, hg⟩ := ho
    have ea : actA A x y = setA A (nI (y % 3)) (nI ((y / 32) % 60)) := by
      unfold actA
      rw [h20, if_neg (by decide), if_neg (by decide), if_neg (by decide), if_neg (by decide), if_neg (by decide), if_neg (by decide), if_pos (by decide)]
    refine W.widen (k := 1) (n := 6) (Nat.le_of_ble_eq_true rfl) (Nat.le_of_ble_eq_true rfl) ?_
    rw [← hQQ]
    exact W.lret hx hb hr (ct_endO o ⟨by rw [ea]; exact hab, hg⟩ (by show _ = some (Value.long (actA A x y).1); rw [ea]) hP hD hS) hS.2.2 dL_act_211
  · rw [h20]
    refine lv_tableIn (off := 203) (tgt := 212) hx hb dL_act_9 (by decide +kernel) (by decide +kernel) (by decide +kernel) (by decide) ?_
    refine lv_aload_n hx hb dL_act_212 rfl (lv_at hl 1 rfl) ?_
    refine lv_iload_n hx hb dL_act_213 rfl (lv_at hl 3 rfl) ?_
    have hc := o_told l hlt G cI cS cL ad mp q qn qt qs qH qx (o := o) hg y hy31
    rw [hab] at hc
    refine co_callS (As := [.ref (q 0), .int (nI y)]) (rest := []) hE hC X hP hD hS hA hc cpS_told aw_831 ⟨Nat.le_of_ble_eq_true rfl, Nat.le_of_ble_eq_true rfl⟩ [0] (cs := [obC q qn qt qs qH qx cI cS ad o]) rfl (by decide) (fun u => [obC q qn qt qs qH qx cI cS ad u]) (fun _ => rfl) (fun _ => rfl) rfl hl.1 rfl (Nat.le_of_ble_eq_true rfl) dL_act_214 ⟨Nat.le_of_ble_eq_true rfl, Nat.le_of_ble_eq_true rfl⟩ (st1 := fun _ => [.long ((toldA A y).1)]) (fun _ => rfl) (fun u => [obC q qn qt qs qH qx cI cS ad u]) (fun _ => rfl) (fun o ho H locs hP hD hS => ?_)
    obtain ⟨hab, hg⟩ := ho
    have ea : actA A x y = toldA A y := by
      unfold actA
      rw [h20, if_neg (by decide), if_neg (by decide), if_neg (by decide), if_neg (by decide), if_neg (by decide), if_neg (by decide), if_neg (by decide), if_pos (by decide)]
    refine W.widen (k := 1) (n := 6) (Nat.le_of_ble_eq_true rfl) (Nat.le_of_ble_eq_true rfl) ?_
    rw [← hQQ]
    exact W.lret hx hb hr (ct_endO o ⟨by rw [ea]; exact hab, hg⟩ (by show _ = some (Value.long (actA A x y).1); rw [ea]) hP hD hS) hS.2.2 dL_act_217
  · rw [h20]
    refine lv_tableIn (off := 209) (tgt := 218) hx hb dL_act_9 (by decide +kernel) (by decide +kernel) (by decide +kernel) (by decide) ?_
    refine lv_aload_n hx hb dL_act_218 rfl (lv_at hl 1 rfl) ?_
    have hc := o_undo l hlt G cI cS cL ad mp q qn qt qs qH qx (o := o) hg
    rw [hab] at hc
    refine co_callH (As := [.ref (q 0)]) (rest := []) hE hC X hP hD hS hA hc cpH_undo aw_687 ⟨Nat.le_of_ble_eq_true rfl, Nat.le_of_ble_eq_true rfl⟩ [0] (cs := [obC q qn qt qs qH qx cI cS ad o]) rfl (by decide) (fun u => [obC q qn qt qs qH qx cI cS ad u]) (fun _ => rfl) (fun _ => rfl) rfl hl.1 rfl (Nat.le_of_ble_eq_true rfl) dL_act_219 ⟨Nat.le_of_ble_eq_true rfl, Nat.le_of_ble_eq_true rfl⟩ (st1 := fun _ => [.long ((undoA A).1)]) (fun _ => rfl) (fun u => [obC q qn qt qs qH qx cI cS ad u]) (fun _ => rfl) (fun o ho H locs hP hD hS => ?_)
    obtain ⟨hab, hg⟩ := ho
    have ea : actA A x y = undoA A := by
      unfold actA
      rw [h20, if_neg (by decide), if_neg (by decide), if_neg (by decide), if_neg (by decide), if_neg (by decide), if_neg (by decide), if_neg (by decide), if_neg (by decide), if_pos (by decide)]
    refine W.widen (k := 1) (n := 6) (Nat.le_of_ble_eq_true rfl) (Nat.le_of_ble_eq_true rfl) ?_
    rw [← hQQ]
    exact W.lret hx hb hr (ct_endO o ⟨by rw [ea]; exact hab, hg⟩ (by show _ = some (Value.long (actA A x y).1); rw [ea]) hP hD hS) hS.2.2 dL_act_222
  · rw [h20]
    refine lv_tableIn (off := 209) (tgt := 218) hx hb dL_act_9 (by decide +kernel) (by decide +kernel) (by decide +kernel) (by decide) ?_
    refine lv_aload_n hx hb dL_act_218 rfl (lv_at hl 1 rfl) ?_
    have hc := o_undo l hlt G cI cS cL ad mp q qn qt qs qH qx (o := o) hg
    rw [hab] at hc
    refine co_callH (As := [.ref (q 0)]) (rest := []) hE hC X hP hD hS hA hc cpH_undo aw_687 ⟨Nat.le_of_ble_eq_true rfl, Nat.le_of_ble_eq_true rfl⟩ [0] (cs := [obC q qn qt qs qH qx cI cS ad o]) rfl (by decide) (fun u => [obC q qn qt qs qH qx cI cS ad u]) (fun _ => rfl) (fun _ => rfl) rfl hl.1 rfl (Nat.le_of_ble_eq_true rfl) dL_act_219 ⟨Nat.le_of_ble_eq_true rfl, Nat.le_of_ble_eq_true rfl⟩ (st1 := fun _ => [.long ((undoA A).1)]) (fun _ => rfl) (fun u => [obC q qn qt qs qH qx cI cS ad u]) (fun _ => rfl) (fun o ho H locs hP hD hS => ?_)
    obtain ⟨hab, hg⟩ := ho
    have ea : actA A x y = undoA A := by
      unfold actA
      rw [h20, if_neg (by decide), if_neg (by decide), if_neg (by decide), if_neg (by decide), if_neg (by decide), if_neg (by decide), if_neg (by decide), if_neg (by decide), if_pos (by decide)]
    refine W.widen (k := 1) (n := 6) (Nat.le_of_ble_eq_true rfl) (Nat.le_of_ble_eq_true rfl) ?_
    rw [← hQQ]
    exact W.lret hx hb hr (ct_endO o ⟨by rw [ea]; exact hab, hg⟩ (by show _ = some (Value.long (actA A x y).1); rw [ea]) hP hD hS) hS.2.2 dL_act_222
  · rw [h20]
    refine lv_tableIn (off := 214) (tgt := 223) hx hb dL_act_9 (by decide +kernel) (by decide +kernel) (by decide +kernel) (by decide) ?_
    refine lv_aload_n hx hb dL_act_223 rfl (lv_at hl 1 rfl) ?_
    have hc := o5_keep l G cI cS cL ad mp q qn qt qs qH qx (o := o) hg
    rw [hab] at hc
    refine co_callV (As := []) (rest := []) hE hC X hP hD hS hA hc cp_X5_keep aw_868 ⟨Nat.le_of_ble_eq_true rfl, Nat.le_of_ble_eq_true rfl⟩ [0] (cs := [obC q qn qt qs qH qx cI cS ad o]) rfl (by decide) (fun u => [obC q qn qt qs qH qx cI cS ad u]) (fun _ => rfl) (fun _ => rfl) 3 rfl rfl (q0 := 0) rfl rfl hl.1 rfl (Nat.le_of_ble_eq_true rfl) dL_act_224 ⟨Nat.le_of_ble_eq_true rfl, Nat.le_of_ble_eq_true rfl⟩ (st1 := fun _ => [.int (ztk A.1)]) (fun _ => rfl) (fun u => [obC q qn qt qs qH qx cI cS ad u]) (fun _ => rfl) (fun o ho H locs hP hD hS => ?_)
    obtain ⟨hab, hg⟩ := ho
    refine lv_i2l hx hb dL_act_227 rfl ?_
    have ea : actA A x y = ((ztk A.1).toInt64, keepA A) := by
      unfold actA
      rw [h20, if_neg (by decide), if_neg (by decide), if_neg (by decide), if_neg (by decide), if_neg (by decide), if_neg (by decide), if_neg (by decide), if_neg (by decide), if_neg (by decide), if_pos (by decide)]
    refine W.widen (k := 1) (n := 6) (Nat.le_of_ble_eq_true rfl) (Nat.le_of_ble_eq_true rfl) ?_
    rw [← hQQ]
    exact W.lret hx hb hr (ct_endO o ⟨by rw [ea]; exact hab, hg⟩ (by show _ = some (Value.long (actA A x y).1); rw [ea]) hP hD hS) hS.2.2 dL_act_228
  · rw [h20]
    refine lv_tableOut (tgt := 229) hx hb dL_act_9 (by decide +kernel) (by decide) ?_
    refine lv_aload_n hx hb dL_act_229 rfl (lv_at hl 1 rfl) ?_
    have hc := o_goBack l hlt G cI cS cL ad mp q qn qt qs qH qx (o := o) hg
    rw [hab] at hc
    refine co_callH (As := [.ref (q 0)]) (rest := []) hE hC X hP hD hS hA hc cpH_goBack aw_872 ⟨Nat.le_of_ble_eq_true rfl, Nat.le_of_ble_eq_true rfl⟩ [0] (cs := [obC q qn qt qs qH qx cI cS ad o]) rfl (by decide) (fun u => [obC q qn qt qs qH qx cI cS ad u]) (fun _ => rfl) (fun _ => rfl) rfl hl.1 rfl (Nat.le_of_ble_eq_true rfl) dL_act_230 ⟨Nat.le_of_ble_eq_true rfl, Nat.le_of_ble_eq_true rfl⟩ (st1 := fun _ => [.long ((goBackA A).1)]) (fun _ => rfl) (fun u => [obC q qn qt qs qH qx cI cS ad u]) (fun _ => rfl) (fun o ho H locs hP hD hS => ?_)
    obtain ⟨hab, hg⟩ := ho
    have ea : actA A x y = goBackA A := by
      unfold actA
      rw [h20, if_neg (by decide), if_neg (by decide), if_neg (by decide), if_neg (by decide), if_neg (by decide), if_neg (by decide), if_neg (by decide), if_neg (by decide), if_neg (by decide), if_neg (by decide)]
    refine W.widen (k := 1) (n := 6) (Nat.le_of_ble_eq_true rfl) (Nat.le_of_ble_eq_true rfl) ?_
    rw [← hQQ]
    exact W.lret hx hb hr (ct_endO o ⟨by rw [ea]; exact hab, hg⟩ (by show _ = some (Value.long (actA A x y).1); rw [ea]) hP hD hS) hS.2.2 dL_act_233
