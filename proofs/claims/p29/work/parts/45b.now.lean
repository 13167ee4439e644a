set_option maxRecDepth 100000 in
set_option maxHeartbeats 4000000 in
theorem o_now (l : Launch) (G : va_G) (cI cS cL : ClassId) (ad : Nat → Nat) (mp : Nat) (q qn qt qs qH qx : Nat → Nat) {o : Ob} (hg : Gd o) (hns : NS (znt (aob o).1)) : CtO l G (tyl cI cS cL) ad mp yL_now (Cond.code yL_now cL_now 5 (some .long)) 7 159 0 0 [.ref (q 0)] [obC q qn qt qs qH qx cI cS ad o].flatten (fun u => aob u = aob o ∧ Gd u) (fun _ => some (.long (nowV (aob o)))) (fun u => [obC q qn qt qs qH qx cI cS ad u].flatten) := by
  obtain ⟨A, hab⟩ : ∃ A, aob o = A := ⟨_, rfl⟩
  rw [hab] at hns ⊢
  refine CtO.of (by decide +kernel) (Nat.le_of_ble_eq_true rfl) ?_
  intro p e s m args below meth c A0 ls hx hb hr hml hw hown hlocks hK hN hC hE hP hD hS hA hl
  have hown : s.vm.findClass RL = some m.cls := hown
  have X : Cx p s m args c cL_now 5 RL G (tyl cI cS cL) := ⟨hx, hb, hml, hown, hw, hK, hN⟩
  have hP : va_P G classes [obC q qn qt qs qH qx cI cS ad o].flatten s.heap := hP
  have hl : lv_has ls 5 [(0, .ref (q 0))] := hl
  generalize hQQ : MQ below _ args s 0 0 A0 = QQ
  refine lv_ldc2 hx hb hown (hw _ aw_202) dL_now_0 ?_
  refine lv_lstore_n (lv' := [(1, .long (137 : Int64)), (0, .ref (q 0))]) hx hb dL_now_3 rfl hl (by decide) rfl (fun ls hl => ?_)
  refine lv_iconst (v := 0) hx hb dL_now_4 (by decide) ?_
  refine lv_istore_n (lv' := [(3, .int (0 : Int32)), (1, .long (137 : Int64)), (0, .ref (q 0))]) hx hb dL_now_5 rfl hl (by decide) rfl (fun ls hl => ?_)
  have lp6 : ∀ (n k6 : Nat), k6 + n = 9 → ∀ (o : Ob) (hab : aob o = A) (hg : Gd o) (H : Heap) (locs : List Loc) (ls : Array Slot), va_P G classes [obC q qn qt qs qH qx cI cS ad o].flatten H → va_D A0 [obC q qn qt qs qH qx cI cS ad o].flatten → va_S A0 s.heap H locs → lv_has ls 5 [(3, .int (nI k6)), (1, .long (nw1 A k6)), (0, .ref (q 0))] → W p l e ({ frames := 7, cells := 0, slots := 0, locals := 159 } : Room) s m args below meth c H locs 0 0 QQ (F0 m 6 ls []) := by
    intro n
    induction n with
    | zero =>
      intro k6 hk
      have hkN : k6 = 9 := by omega
      rw [hkN]
      intro o hab hg H locs ls hP hD hS hl
      refine lv_iload_n hx hb dL_now_6 rfl (lv_at hl 0 rfl) ?_
      refine lv_bipush (v := 9) hx hb dL_now_7 (by decide) ?_
      refine nv_ge hx hb 9 9 30 (by omega) (by omega) dL_now_9 (by decide) (fun _ => ?_) (fun c => absurd (Nat.le_refl _) c)
      refine lv_iconst (v := 0) hx hb dL_now_30 (by decide) ?_
      refine lv_istore_n (lv' := [(3, .int (0 : Int32)), (1, .long (nw1 A 9)), (0, .ref (q 0))]) hx hb dL_now_31 rfl hl (by decide) rfl (fun ls hl => ?_)
      have lp32 : ∀ (n k32 : Nat), k32 + n = 8 → ∀ (o : Ob) (hab : aob o = A) (hg : Gd o) (H : Heap) (locs : List Loc) (ls : Array Slot), va_P G classes [obC q qn qt qs qH qx cI cS ad o].flatten H → va_D A0 [obC q qn qt qs qH qx cI cS ad o].flatten → va_S A0 s.heap H locs → lv_has ls 5 [(3, .int (nI k32)), (1, .long (nw2 A (nw1 A 9) k32)), (0, .ref (q 0))] → W p l e ({ frames := 7, cells := 0, slots := 0, locals := 159 } : Room) s m args below meth c H locs 0 0 QQ (F0 m 32 ls []) := by
        intro n
        induction n with
        | zero =>
          intro k32 hk
          have hkN : k32 = 8 := by omega
          rw [hkN]
          intro o hab hg H locs ls hP hD hS hl
          refine lv_iload_n hx hb dL_now_32 rfl (lv_at hl 0 rfl) ?_
          refine lv_bipush (v := 8) hx hb dL_now_33 (by decide) ?_
          refine nv_ge hx hb 8 8 104 (by omega) (by omega) dL_now_35 (by decide) (fun _ => ?_) (fun c => absurd (Nat.le_refl _) c)
          refine lv_iconst (v := 0) hx hb dL_now_104 (by decide) ?_
          refine lv_istore_n (lv' := [(3, .int (0 : Int32)), (1, .long (nw2 A (nw1 A 9) 8)), (0, .ref (q 0))]) hx hb dL_now_105 rfl hl (by decide) rfl (fun ls hl => ?_)
          have lp106 : ∀ (n k106 : Nat), k106 + n = 3 → ∀ (o : Ob) (hab : aob o = A) (hg : Gd o) (H : Heap) (locs : List Loc) (ls : Array Slot), va_P G classes [obC q qn qt qs qH qx cI cS ad o].flatten H → va_D A0 [obC q qn qt qs qH qx cI cS ad o].flatten → va_S A0 s.heap H locs → lv_has ls 5 [(3, .int (nI k106)), (1, .long (nw3 A (nw2 A (nw1 A 9) 8) k106)), (0, .ref (q 0))] → W p l e ({ frames := 7, cells := 0, slots := 0, locals := 159 } : Room) s m args below meth c H locs 0 0 QQ (F0 m 106 ls []) := by
            intro n
            induction n with
            | zero =>
              intro k106 hk
              have hkN : k106 = 3 := by omega
              rw [hkN]
              intro o hab hg H locs ls hP hD hS hl
              refine lv_iload_n hx hb dL_now_106 rfl (lv_at hl 0 rfl) ?_
              refine lv_iconst (v := 3) hx hb dL_now_107 (by decide) ?_
              refine nv_ge hx hb 3 3 140 (by omega) (by omega) dL_now_108 (by decide) (fun _ => ?_) (fun c => absurd (Nat.le_refl _) c)
              refine lv_lload_n hx hb dL_now_140 rfl (lv_at hl 1 rfl) ?_
              rw [← hQQ]
              exact W.lret hx hb hr (ct_endO o ⟨hab, hg⟩ rfl hP hD hS) hS.2.2 dL_now_141
            | succ n ih106 =>
              intro k106 hk o hab hg H locs ls hP hD hS hl
              have hlt106 : k106 < 3 := by omega
              refine lv_iload_n hx hb dL_now_106 rfl (lv_at hl 0 rfl) ?_
              refine lv_iconst (v := 3) hx hb dL_now_107 (by decide) ?_
              refine nv_ge hx hb k106 3 140 (by omega) (by omega) dL_now_108 (by decide) (fun c => absurd c (by omega)) (fun _ => ?_)
              refine lv_ldc2 hx hb hown (hw _ aw_203) dL_now_111 ?_
              refine lv_lload_n hx hb dL_now_114 rfl (lv_at hl 1 rfl) ?_
              refine lv_lmul hx hb dL_now_115 ?_
              refine lv_ldc2 hx hb hown (hw _ aw_427) dL_now_116 ?_
              refine lv_aload_n hx hb dL_now_119 rfl (lv_at hl 2 rfl) ?_
              refine lv_iload_n hx hb dL_now_120 rfl (lv_at hl 0 rfl) ?_
              refine lv_iconst (v := 0) hx hb dL_now_121 (by decide) ?_
              have hc := oz_beam l G cI cS cL ad mp q qn qt qs qH qx (o := o) hg (nI k106) (0 : Int32) (bm_ok (by omega)) (by decide)
              rw [hab] at hc
              refine co_callH (As := [.ref (q 0), .int (nI k106), .int (0 : Int32)]) (rest := [.long (97 : Int64), .long ((31 : Int64) * (nw3 A (nw2 A (nw1 A 9) 8) k106))]) hE hC X hP hD hS hA hc cpH_beam aw_428 ⟨Nat.le_of_ble_eq_true rfl, Nat.le_of_ble_eq_true rfl⟩ [0] (cs := [obC q qn qt qs qH qx cI cS ad o]) rfl (by decide) (fun u => [obC q qn qt qs qH qx cI cS ad u]) (fun _ => rfl) (fun _ => rfl) rfl hl.1 rfl (Nat.le_of_ble_eq_true rfl) dL_now_122 ⟨Nat.le_of_ble_eq_true rfl, Nat.le_of_ble_eq_true rfl⟩ (st1 := fun _ => [.long (beamA A (nI k106) (0 : Int32)), .long (97 : Int64), .long ((31 : Int64) * (nw3 A (nw2 A (nw1 A 9) 8) k106))]) (fun _ => rfl) (fun u => [obC q qn qt qs qH qx cI cS ad u]) (fun _ => rfl) (fun o ho H locs hP hD hS => ?_)
              obtain ⟨hab, hg⟩ := ho
              refine lv_lmul hx hb dL_now_125 ?_
              refine lv_ladd hx hb dL_now_126 ?_
              refine lv_aload_n hx hb dL_now_127 rfl (lv_at hl 2 rfl) ?_
              refine lv_iload_n hx hb dL_now_128 rfl (lv_at hl 0 rfl) ?_
              have hc := oz_setting l G cI cS cL ad mp q qn qt qs qH qx (o := o) hg (nI k106) (se_ok (by omega))
              rw [hab] at hc
              refine co_callH (As := [.ref (q 0), .int (nI k106)]) (rest := [.long (((31 : Int64) * (nw3 A (nw2 A (nw1 A 9) 8) k106)) + ((97 : Int64) * (beamA A (nI k106) (0 : Int32))))]) hE hC X hP hD hS hA hc cpH_setting aw_454 ⟨Nat.le_of_ble_eq_true rfl, Nat.le_of_ble_eq_true rfl⟩ [0] (cs := [obC q qn qt qs qH qx cI cS ad o]) rfl (by decide) (fun u => [obC q qn qt qs qH qx cI cS ad u]) (fun _ => rfl) (fun _ => rfl) rfl hl.1 rfl (Nat.le_of_ble_eq_true rfl) dL_now_129 ⟨Nat.le_of_ble_eq_true rfl, Nat.le_of_ble_eq_true rfl⟩ (st1 := fun _ => [.long (settingA A (nI k106)), .long (((31 : Int64) * (nw3 A (nw2 A (nw1 A 9) 8) k106)) + ((97 : Int64) * (beamA A (nI k106) (0 : Int32))))]) (fun _ => rfl) (fun u => [obC q qn qt qs qH qx cI cS ad u]) (fun _ => rfl) (fun o ho H locs hP hD hS => ?_)
              obtain ⟨hab, hg⟩ := ho
              refine lv_ladd hx hb dL_now_132 ?_
              refine lv_lstore_n (lv' := [(1, .long ((((31 : Int64) * (nw3 A (nw2 A (nw1 A 9) 8) k106)) + ((97 : Int64) * (beamA A (nI k106) (0 : Int32)))) + (settingA A (nI k106)))), (3, .int (nI k106)), (0, .ref (q 0))]) hx hb dL_now_133 rfl hl (by decide) rfl (fun ls hl => ?_)
              refine nv_iinc (k := 1) (lv' := [(3, .int (nI ((k106 + 1)))), (1, .long ((((31 : Int64) * (nw3 A (nw2 A (nw1 A 9) 8) k106)) + ((97 : Int64) * (beamA A (nI k106) (0 : Int32)))) + (settingA A (nI k106)))), (0, .ref (q 0))]) hx hb k106 dL_now_134 hl rfl (by decide) rfl (fun ls hl => ?_)
              refine lv_goto (tgt := 106) hx hb dL_now_137 (by decide) ?_
              exact ih106 (k106 + 1) (by omega) o hab hg _ _ _ hP hD hS (lv_sub hl [0, 1, 2] rfl)
          exact lp106 3 0 (by omega) o hab hg _ _ _ hP hD hS (lv_sub hl [0, 1, 2] rfl)
        | succ n ih32 =>
          intro k32 hk o hab hg H locs ls hP hD hS hl
          have hlt32 : k32 < 8 := by omega
          refine lv_iload_n hx hb dL_now_32 rfl (lv_at hl 0 rfl) ?_
          refine lv_bipush (v := 8) hx hb dL_now_33 (by decide) ?_
          refine nv_ge hx hb k32 8 104 (by omega) (by omega) dL_now_35 (by decide) (fun c => absurd c (by omega)) (fun _ => ?_)
          refine lv_iconst (v := 0) hx hb dL_now_38 (by decide) ?_
          refine lv_istore (lv' := [(4, .int (0 : Int32)), (3, .int (nI k32)), (1, .long (nw2 A (nw1 A 9) k32)), (0, .ref (q 0))]) hx hb dL_now_39 hl (by decide) rfl (fun ls hl => ?_)
          have lp41 : ∀ (n k41 : Nat), k41 + n = 11 → ∀ (o : Ob) (hab : aob o = A) (hg : Gd o) (H : Heap) (locs : List Loc) (ls : Array Slot), va_P G classes [obC q qn qt qs qH qx cI cS ad o].flatten H → va_D A0 [obC q qn qt qs qH qx cI cS ad o].flatten → va_S A0 s.heap H locs → lv_has ls 5 [(4, .int (nI k41)), (1, .long (nwc A k32 (nw2 A (nw1 A 9) k32) k41)), (0, .ref (q 0)), (3, .int (nI k32))] → W p l e ({ frames := 7, cells := 0, slots := 0, locals := 159 } : Room) s m args below meth c H locs 0 0 QQ (F0 m 41 ls []) := by
            intro n
            induction n with
            | zero =>
              intro k41 hk
              have hkN : k41 = 11 := by omega
              rw [hkN]
              intro o hab hg H locs ls hP hD hS hl
              refine lv_iload hx hb dL_now_41 (lv_at hl 0 rfl) ?_
              refine lv_bipush (v := 11) hx hb dL_now_43 (by decide) ?_
              refine nv_ge hx hb 11 11 68 (by omega) (by omega) dL_now_45 (by decide) (fun _ => ?_) (fun c => absurd (Nat.le_refl _) c)
              refine lv_iconst (v := 0) hx hb dL_now_68 (by decide) ?_
              refine lv_istore (lv' := [(4, .int (0 : Int32)), (1, .long (nwc A k32 (nw2 A (nw1 A 9) k32) 11)), (0, .ref (q 0)), (3, .int (nI k32))]) hx hb dL_now_69 hl (by decide) rfl (fun ls hl => ?_)
              have lp71 : ∀ (n k71 : Nat), k71 + n = k32 → ∀ (o : Ob) (hab : aob o = A) (hg : Gd o) (H : Heap) (locs : List Loc) (ls : Array Slot), va_P G classes [obC q qn qt qs qH qx cI cS ad o].flatten H → va_D A0 [obC q qn qt qs qH qx cI cS ad o].flatten → va_S A0 s.heap H locs → lv_has ls 5 [(4, .int (nI k71)), (1, .long (nwp A k32 (nwc A k32 (nw2 A (nw1 A 9) k32) 11) k71)), (0, .ref (q 0)), (3, .int (nI k32))] → W p l e ({ frames := 7, cells := 0, slots := 0, locals := 159 } : Room) s m args below meth c H locs 0 0 QQ (F0 m 71 ls []) := by
                intro n
                induction n with
                | zero =>
                  intro k71 hk
                  have hkN : k71 = k32 := by omega
                  rw [hkN]
                  intro o hab hg H locs ls hP hD hS hl
                  refine lv_iload hx hb dL_now_71 (lv_at hl 0 rfl) ?_
                  refine lv_iload_n hx hb dL_now_73 rfl (lv_at hl 3 rfl) ?_
                  refine nv_ge hx hb k32 k32 98 (by omega) (by omega) dL_now_74 (by decide) (fun _ => ?_) (fun c => absurd (Nat.le_refl _) c)
                  refine nv_iinc (k := 3) (lv' := [(3, .int (nI ((k32 + 1)))), (4, .int (nI k32)), (1, .long (nwp A k32 (nwc A k32 (nw2 A (nw1 A 9) k32) 11) k32)), (0, .ref (q 0))]) hx hb k32 dL_now_98 hl rfl (by decide) rfl (fun ls hl => ?_)
                  refine lv_goto (tgt := 32) hx hb dL_now_101 (by decide) ?_
                  exact ih32 (k32 + 1) (by omega) o hab hg _ _ _ hP hD hS (lv_sub hl [0, 2, 3] rfl)
                | succ n ih71 =>
                  intro k71 hk o hab hg H locs ls hP hD hS hl
                  have hlt71 : k71 < k32 := by omega
                  refine lv_iload hx hb dL_now_71 (lv_at hl 0 rfl) ?_
                  refine lv_iload_n hx hb dL_now_73 rfl (lv_at hl 3 rfl) ?_
                  refine nv_ge hx hb k71 k32 98 (by omega) (by omega) dL_now_74 (by decide) (fun c => absurd c (by omega)) (fun _ => ?_)
                  refine lv_ldc2 hx hb hown (hw _ aw_203) dL_now_77 ?_
                  refine lv_lload_n hx hb dL_now_80 rfl (lv_at hl 1 rfl) ?_
                  refine lv_lmul hx hb dL_now_81 ?_
                  refine lv_aload_n hx hb dL_now_82 rfl (lv_at hl 2 rfl) ?_
                  refine lv_iload_n hx hb dL_now_83 rfl (lv_at hl 3 rfl) ?_
                  refine lv_iload hx hb dL_now_84 (lv_at hl 0 rfl) ?_
                  refine lv_iconst (v := 1) hx hb dL_now_86 (by decide) ?_
                  have hc := oz_pair l G cI cS cL ad mp q qn qt qs qH qx (o := o) hg (nI k32) (nI k71) (1 : Int32) (par_ok (by omega) (by omega) (by omega)) (by decide)
                  rw [hab] at hc
                  refine co_callH (As := [.ref (q 0), .int (nI k32), .int (nI k71), .int (1 : Int32)]) (rest := [.long ((31 : Int64) * (nwp A k32 (nwc A k32 (nw2 A (nw1 A 9) k32) 11) k71))]) hE hC X hP hD hS hA hc cpH_pair aw_396 ⟨Nat.le_of_ble_eq_true rfl, Nat.le_of_ble_eq_true rfl⟩ [0] (cs := [obC q qn qt qs qH qx cI cS ad o]) rfl (by decide) (fun u => [obC q qn qt qs qH qx cI cS ad u]) (fun _ => rfl) (fun _ => rfl) rfl hl.1 rfl (Nat.le_of_ble_eq_true rfl) dL_now_87 ⟨Nat.le_of_ble_eq_true rfl, Nat.le_of_ble_eq_true rfl⟩ (st1 := fun _ => [.long (pairA A (nI k32) (nI k71) (1 : Int32)), .long ((31 : Int64) * (nwp A k32 (nwc A k32 (nw2 A (nw1 A 9) k32) 11) k71))]) (fun _ => rfl) (fun u => [obC q qn qt qs qH qx cI cS ad u]) (fun _ => rfl) (fun o ho H locs hP hD hS => ?_)
                  obtain ⟨hab, hg⟩ := ho
                  refine lv_ladd hx hb dL_now_90 ?_
                  refine lv_lstore_n (lv' := [(1, .long (((31 : Int64) * (nwp A k32 (nwc A k32 (nw2 A (nw1 A 9) k32) 11) k71)) + (pairA A (nI k32) (nI k71) (1 : Int32)))), (4, .int (nI k71)), (0, .ref (q 0)), (3, .int (nI k32))]) hx hb dL_now_91 rfl hl (by decide) rfl (fun ls hl => ?_)
                  refine nv_iinc (k := 1) (lv' := [(4, .int (nI ((k71 + 1)))), (1, .long (((31 : Int64) * (nwp A k32 (nwc A k32 (nw2 A (nw1 A 9) k32) 11) k71)) + (pairA A (nI k32) (nI k71) (1 : Int32)))), (0, .ref (q 0)), (3, .int (nI k32))]) hx hb k71 dL_now_92 hl rfl (by decide) rfl (fun ls hl => ?_)
                  refine lv_goto (tgt := 71) hx hb dL_now_95 (by decide) ?_
                  exact ih71 (k71 + 1) (by omega) o hab hg _ _ _ hP hD hS (lv_sub hl [0, 1, 2, 3] rfl)
              exact lp71 k32 0 (by omega) o hab hg _ _ _ hP hD hS (lv_sub hl [0, 1, 2, 3] rfl)
            | succ n ih41 =>
              intro k41 hk o hab hg H locs ls hP hD hS hl
              have hlt41 : k41 < 11 := by omega
              refine lv_iload hx hb dL_now_41 (lv_at hl 0 rfl) ?_
              refine lv_bipush (v := 11) hx hb dL_now_43 (by decide) ?_
              refine nv_ge hx hb k41 11 68 (by omega) (by omega) dL_now_45 (by decide) (fun c => absurd c (by omega)) (fun _ => ?_)
              refine lv_ldc2 hx hb hown (hw _ aw_203) dL_now_48 ?_
              refine lv_lload_n hx hb dL_now_51 rfl (lv_at hl 1 rfl) ?_
              refine lv_lmul hx hb dL_now_52 ?_
              refine lv_aload_n hx hb dL_now_53 rfl (lv_at hl 2 rfl) ?_
              refine lv_iload_n hx hb dL_now_54 rfl (lv_at hl 3 rfl) ?_
              refine lv_iload hx hb dL_now_55 (lv_at hl 0 rfl) ?_
              have hc := oz_clock l G cI cS cL ad mp q qn qt qs qH qx (o := o) hg (nI k32) (nI k41) (clk_ok (by omega)) (w_ok 10 rfl (by omega) (by decide))
              rw [hab] at hc
              refine co_callH (As := [.ref (q 0), .int (nI k32), .int (nI k41)]) (rest := [.long ((31 : Int64) * (nwc A k32 (nw2 A (nw1 A 9) k32) k41))]) hE hC X hP hD hS hA hc cpH_clock aw_341 ⟨Nat.le_of_ble_eq_true rfl, Nat.le_of_ble_eq_true rfl⟩ [0] (cs := [obC q qn qt qs qH qx cI cS ad o]) rfl (by decide) (fun u => [obC q qn qt qs qH qx cI cS ad u]) (fun _ => rfl) (fun _ => rfl) rfl hl.1 rfl (Nat.le_of_ble_eq_true rfl) dL_now_57 ⟨Nat.le_of_ble_eq_true rfl, Nat.le_of_ble_eq_true rfl⟩ (st1 := fun _ => [.long (clockA A (nI k32) (nI k41)), .long ((31 : Int64) * (nwc A k32 (nw2 A (nw1 A 9) k32) k41))]) (fun _ => rfl) (fun u => [obC q qn qt qs qH qx cI cS ad u]) (fun _ => rfl) (fun o ho H locs hP hD hS => ?_)
              obtain ⟨hab, hg⟩ := ho
              refine lv_ladd hx hb dL_now_60 ?_
              refine lv_lstore_n (lv' := [(1, .long (((31 : Int64) * (nwc A k32 (nw2 A (nw1 A 9) k32) k41)) + (clockA A (nI k32) (nI k41)))), (4, .int (nI k41)), (0, .ref (q 0)), (3, .int (nI k32))]) hx hb dL_now_61 rfl hl (by decide) rfl (fun ls hl => ?_)
              refine nv_iinc (k := 1) (lv' := [(4, .int (nI ((k41 + 1)))), (1, .long (((31 : Int64) * (nwc A k32 (nw2 A (nw1 A 9) k32) k41)) + (clockA A (nI k32) (nI k41)))), (0, .ref (q 0)), (3, .int (nI k32))]) hx hb k41 dL_now_62 hl rfl (by decide) rfl (fun ls hl => ?_)
              refine lv_goto (tgt := 41) hx hb dL_now_65 (by decide) ?_
              exact ih41 (k41 + 1) (by omega) o hab hg _ _ _ hP hD hS (lv_sub hl [0, 1, 2, 3] rfl)
          exact lp41 11 0 (by omega) o hab hg _ _ _ hP hD hS (lv_sub hl [0, 2, 3, 1] rfl)
      exact lp32 8 0 (by omega) o hab hg _ _ _ hP hD hS (lv_sub hl [0, 1, 2] rfl)
    | succ n ih6 =>
      intro k6 hk o hab hg H locs ls hP hD hS hl
      have hlt6 : k6 < 9 := by omega
      refine lv_iload_n hx hb dL_now_6 rfl (lv_at hl 0 rfl) ?_
      refine lv_bipush (v := 9) hx hb dL_now_7 (by decide) ?_
      refine nv_ge hx hb k6 9 30 (by omega) (by omega) dL_now_9 (by decide) (fun c => absurd c (by omega)) (fun _ => ?_)
      refine lv_ldc2 hx hb hown (hw _ aw_203) dL_now_12 ?_
      refine lv_lload_n hx hb dL_now_15 rfl (lv_at hl 1 rfl) ?_
      refine lv_lmul hx hb dL_now_16 ?_
      refine lv_aload_n hx hb dL_now_17 rfl (lv_at hl 2 rfl) ?_
      refine lv_iload_n hx hb dL_now_18 rfl (lv_at hl 0 rfl) ?_
      have hc := oz_count l G cI cS cL ad mp q qn qt qs qH qx (o := o) hg (by rw [hab]; exact hns) (nI k6) (w_ok 9 rfl (by omega) (by decide))
      rw [hab] at hc
      refine co_callH (As := [.ref (q 0), .int (nI k6)]) (rest := [.long ((31 : Int64) * (nw1 A k6))]) hE hC X hP hD hS hA hc cpH_count aw_204 ⟨Nat.le_of_ble_eq_true rfl, Nat.le_of_ble_eq_true rfl⟩ [0] (cs := [obC q qn qt qs qH qx cI cS ad o]) rfl (by decide) (fun u => [obC q qn qt qs qH qx cI cS ad u]) (fun _ => rfl) (fun _ => rfl) rfl hl.1 rfl (Nat.le_of_ble_eq_true rfl) dL_now_19 ⟨Nat.le_of_ble_eq_true rfl, Nat.le_of_ble_eq_true rfl⟩ (st1 := fun _ => [.long (countA A (nI k6)), .long ((31 : Int64) * (nw1 A k6))]) (fun _ => rfl) (fun u => [obC q qn qt qs qH qx cI cS ad u]) (fun _ => rfl) (fun o ho H locs hP hD hS => ?_)
      obtain ⟨hab, hg⟩ := ho
      refine lv_ladd hx hb dL_now_22 ?_
      refine lv_lstore_n (lv' := [(1, .long (((31 : Int64) * (nw1 A k6)) + (countA A (nI k6)))), (3, .int (nI k6)), (0, .ref (q 0))]) hx hb dL_now_23 rfl hl (by decide) rfl (fun ls hl => ?_)
      refine nv_iinc (k := 1) (lv' := [(3, .int (nI ((k6 + 1)))), (1, .long (((31 : Int64) * (nw1 A k6)) + (countA A (nI k6)))), (0, .ref (q 0))]) hx hb k6 dL_now_24 hl rfl (by decide) rfl (fun ls hl => ?_)
      refine lv_goto (tgt := 6) hx hb dL_now_27 (by decide) ?_
      exact ih6 (k6 + 1) (by omega) o hab hg _ _ _ hP hD hS (lv_sub hl [0, 1, 2] rfl)
  exact lp6 9 0 (by omega) o hab hg _ _ _ hP hD hS (lv_sub hl [0, 1, 2] rfl)
