theorem itx_loopK {α ρ : Type} {f : Nat → α → α ⊕ ρ} (N : Nat) (I : Nat → α → Prop) (Wd : α → Prop) (T : α ⊕ ρ) (hs : ∀ k s, k < N → (∀ r, f k s = .inr r → T = .inr r) → I k s → (∀ s', f k s = .inl s' → I (k + 1) s' → Wd s') → Wd s) (hN : ∀ s, ¬ I N s) : ∀ (n k0 : Nat) (s0 : α), k0 + n = N → I k0 s0 → itx f k0 n s0 = T → Wd s0
  | 0, k0, s0, h, hI, _ => by
    have e : k0 = N := by omega
    subst e
    exact absurd hI (hN s0)
  | n + 1, k0, s0, h, hI, hT => hs k0 s0 (by omega) (fun r hr => by rw [← hT]; exact itx_r f k0 n s0 r hr) hI (fun s' h1 h2 => itx_loopK N I Wd T hs hN n (k0 + 1) s' (by omega) h2 (by rw [← hT]; exact (itx_l f k0 n s0 s' h1).symm))
theorem bN_le (b : Bool) : bN b ≤ 1 := by cases b <;> decide
theorem cp_X6_digit : CpV yX6_digit cX6_digit 4 (some (Jvm.ClassFile.FieldType.int)) 2 := ⟨aw_1059, aw_1058, aw_47, aw_73, by decide +kernel⟩
theorem cp_X6_here : CpV yX6_here cX6_here 1 (some (Jvm.ClassFile.FieldType.int)) 0 := ⟨aw_1047, aw_1046, aw_44, aw_73, by decide +kernel⟩
theorem cp_X6_take : CpV yX6_take cX6_take 2 none 1 := ⟨aw_1051, aw_1050, aw_45, aw_73, by decide +kernel⟩
def f_X6_here (length : Nat) (at_ : Nat) (text : Nat → Int32) : Int32 := (if length ≤ at_ then (-1 : Int32) else (text at_))
set_option maxRecDepth 100000 in
set_option maxHeartbeats 4000000 in
theorem k_X6_here (l : Launch) (G : va_G) (cI cS cL : ClassId) (q : Nat → Nat) (refusal : Int32) (isShot : Bool) (states : Nat) (length : Nat) (at_ : Nat) (good : Bool) (runs : Bool) (did : Int32) (text : Nat → Int32) (hat : at_ < 90000) (hln : length ≤ 60) : Ct l G (tyl cI cS cL) yX6_here cX6_here 1 (some (Jvm.ClassFile.FieldType.int)) 0 0 0 0 [.ref (q 0)] [mdC q refusal isShot states length at_ good runs did, rwC (q 7) cI 60 text].flatten (f_X6_here length at_ text) (fun u => some (.int u)) (fun _ => [mdC q refusal isShot states length at_ good runs did, rwC (q 7) cI 60 text].flatten) := by
  refine Ct.of (by decide +kernel) (Nat.le_of_ble_eq_true rfl) ?_
  intro p e s m args below meth c A ls hx hb hr hml hw hown hlocks hin hK hN hP hD hS hA hl
  have hown : s.vm.findClass RX6 = some m.cls := hown
  have X : Cx p s m args c cX6_here 1 RX6 G (tyl cI cS cL) := ⟨hx, hb, hml, hown, hw, hK, hN⟩
  have hP : va_P G classes [mdC q refusal isShot states length at_ good runs did, rwC (q 7) cI 60 text].flatten s.heap := hP
  have hl : lv_has ls 1 [(0, .ref (q 0))] := hl
  generalize hQQ : MQ below _ args s 0 0 A = QQ
  refine lv_aload_n hx hb dX6_here_0 rfl (lv_at hl 0 rfl) ?_
  refine va_get (D := G) (ci := 4) (C := RX6) (T := TX6) (N := 15) hx hb hw in_X6 hown hK hP 0 rfl rfl 11 (by decide) (hw _ aw_882) (fun _ h9 => h9) rfl dX6_here_1 ?_
  refine lv_aload_n hx hb dX6_here_4 rfl (lv_at hl 0 rfl) ?_
  refine va_get (D := G) (ci := 4) (C := RX6) (T := TX6) (N := 15) hx hb hw in_X6 hown hK hP 0 rfl rfl 10 (by decide) (hw _ aw_881) (fun _ h9 => h9) rfl dX6_here_5 ?_
  have hM_5 : ∀ (v_4 : Int32) (ls : Array Slot) (H : Heap) (locs : List Loc), v_4 = (if length ≤ at_ then (-1 : Int32) else (text at_)) → lv_has ls 1 [] → va_P G classes [mdC q refusal isShot states length at_ good runs did, rwC (q 7) cI 60 text].flatten H → va_D A [mdC q refusal isShot states length at_ good runs did, rwC (q 7) cI 60 text].flatten → va_S A s.heap H locs → W p l e ({ frames := 0, cells := 0, slots := 0, locals := 0 } : Room) s m args below meth c H locs 0 0 QQ (F0 m 24 ls [.int v_4]) := by
    intro v_4 ls H locs e_v_4 hl hP hD hS
    subst e_v_4
    rw [← hQQ]; exact W.iret hx hb hr (ct_end (F := (f_X6_here length at_ text)) (u := (if length ≤ at_ then (-1 : Int32) else (text at_))) (rf := (fun u => some (.int u))) (wf := (fun _ => [mdC q refusal isShot states length at_ good runs did, rwC (q 7) cI 60 text].flatten)) rfl rfl hP hD hS) hS.2.2 dX6_here_24
  refine nv_ge hx hb at_ length 23 (by omega) (by omega) dX6_here_8 (by decide) (fun c_1 => ?_) (fun c_1 => ?_)
  · refine lv_iconst (v := -1) hx hb dX6_here_23 (by decide) ?_
    exact hM_5 (-1 : Int32) _ _ _ (if_pos c_1).symm (lv_sub hl [] rfl) hP hD hS
  · refine lv_aload_n hx hb dX6_here_11 rfl (lv_at hl 0 rfl) ?_
    refine va_get (D := G) (ci := 4) (C := RX6) (T := TX6) (N := 15) hx hb hw in_X6 hown hK hP 0 rfl rfl 9 (by decide) (hw _ aw_880) (fun _ h9 => h9) rfl dX6_here_12 ?_
    refine lv_aload_n hx hb dX6_here_15 rfl (lv_at hl 0 rfl) ?_
    refine va_get (D := G) (ci := 4) (C := RX6) (T := TX6) (N := 15) hx hb hw in_X6 hown hK hP 0 rfl rfl 11 (by decide) (hw _ aw_882) (fun _ h9 => h9) rfl dX6_here_16 ?_
    refine nv_iald hx hb hK hP 1 0 rfl rfl at_ (by omega) (by decide) dX6_here_19 ?_
    refine lv_goto (tgt := 24) hx hb dX6_here_20 (by decide) ?_
    exact hM_5 (text at_) _ _ _ (if_neg c_1).symm (lv_sub hl [] rfl) hP hD hS
def f_X6_take (at_ : Nat) (good : Bool) (allowed : Bool) : Nat × Bool := ((at_ + bN (if (if good = true then (if allowed = true then true else false) else false) = true then true else false)), (if good = true then (if allowed = true then true else false) else false))
set_option maxRecDepth 100000 in
set_option maxHeartbeats 4000000 in
theorem k_X6_take (l : Launch) (G : va_G) (cI cS cL : ClassId) (q : Nat → Nat) (refusal : Int32) (isShot : Bool) (states : Nat) (length : Nat) (at_ : Nat) (good : Bool) (runs : Bool) (did : Int32) (allowed : Bool) : Ct l G (tyl cI cS cL) yX6_take cX6_take 2 none 0 0 0 0 [.ref (q 0), .int (bI allowed)] [mdC q refusal isShot states length at_ good runs did].flatten (f_X6_take at_ good allowed) (fun _ => none) (fun u => [mdC q refusal isShot states length u.1 u.2 runs did].flatten) := by
  refine Ct.of (by decide +kernel) (Nat.le_of_ble_eq_true rfl) ?_
  intro p e s m args below meth c A ls hx hb hr hml hw hown hlocks hin hK hN hP hD hS hA hl
  have hown : s.vm.findClass RX6 = some m.cls := hown
  have X : Cx p s m args c cX6_take 2 RX6 G (tyl cI cS cL) := ⟨hx, hb, hml, hown, hw, hK, hN⟩
  have hP : va_P G classes [mdC q refusal isShot states length at_ good runs did].flatten s.heap := hP
  have hl : lv_has ls 2 [(0, .ref (q 0)), (1, .int (bI allowed))] := hl
  generalize hQQ : MQ below _ args s 0 0 A = QQ
  refine lv_aload_n hx hb dX6_take_0 rfl (lv_at hl 0 rfl) ?_
  refine lv_aload_n hx hb dX6_take_1 rfl (lv_at hl 0 rfl) ?_
  refine va_get (D := G) (ci := 4) (C := RX6) (T := TX6) (N := 15) hx hb hw in_X6 hown hK hP 0 rfl rfl 12 (by decide) (hw _ aw_883) (fun _ h9 => h9) rfl dX6_take_2 ?_
  have hM_10 : ∀ (v_9 : Bool) (ls : Array Slot) (H : Heap) (locs : List Loc), v_9 = (if good = true then (if allowed = true then true else false) else false) → lv_has ls 2 [(0, .ref (q 0))] → va_P G classes [mdC q refusal isShot states length at_ good runs did].flatten H → va_D A [mdC q refusal isShot states length at_ good runs did].flatten → va_S A s.heap H locs → W p l e ({ frames := 0, cells := 0, slots := 0, locals := 0 } : Room) s m args below meth c H locs 0 0 QQ (F0 m 17 ls [.int (bI v_9), .ref (q 0)]) := by
    intro v_9 ls H locs e_v_9 hl hP hD hS
    subst e_v_9
    refine nv_put (D := G) (ci := 4) (ty := .boolean) (v := .int (bI (if good = true then (if allowed = true then true else false) else false))) (C := RX6) (T := TX6) (N := 15) hx hb hw in_X6 tyX6 tyX6_ok nmX6 hown hK hP hD hS 0 rfl rfl 12 (by decide) (hw _ aw_883) (fun _ h9 => h9) rfl (by decide +kernel) (nar_b _) (fit_b _) (Nat.le_of_ble_eq_true rfl) dX6_take_17 (ws' := [mdC q refusal isShot states length at_ (if good = true then (if allowed = true then true else false) else false) runs did].flatten) rfl (fun H locs hP hD hS => ?_)
    refine lv_aload_n hx hb dX6_take_20 rfl (lv_at hl 0 rfl) ?_
    refine lv_dup hx hb dX6_take_21 rfl ?_
    refine va_get (D := G) (ci := 4) (C := RX6) (T := TX6) (N := 15) hx hb hw in_X6 hown hK hP 0 rfl rfl 11 (by decide) (hw _ aw_882) (fun _ h9 => h9) rfl dX6_take_22 ?_
    refine lv_aload_n hx hb dX6_take_25 rfl (lv_at hl 0 rfl) ?_
    refine va_get (D := G) (ci := 4) (C := RX6) (T := TX6) (N := 15) hx hb hw in_X6 hown hK hP 0 rfl rfl 12 (by decide) (hw _ aw_883) (fun _ h9 => h9) rfl dX6_take_26 ?_
    have hM_15 : ∀ (v_14 : Bool) (ls : Array Slot) (H : Heap) (locs : List Loc), v_14 = (if (if good = true then (if allowed = true then true else false) else false) = true then true else false) → lv_has ls 2 [] → va_P G classes [mdC q refusal isShot states length at_ (if good = true then (if allowed = true then true else false) else false) runs did].flatten H → va_D A [mdC q refusal isShot states length at_ (if good = true then (if allowed = true then true else false) else false) runs did].flatten → va_S A s.heap H locs → W p l e ({ frames := 0, cells := 0, slots := 0, locals := 0 } : Room) s m args below meth c H locs 0 0 QQ (F0 m 37 ls [.int (bI v_14), .int (nI at_), .ref (q 0)]) := by
      intro v_14 ls H locs e_v_14 hl hP hD hS
      subst e_v_14
      refine nvb_iadd hx hb at_ (if (if good = true then (if allowed = true then true else false) else false) = true then true else false) dX6_take_37 ?_
      refine nv_put (D := G) (ci := 4) (ty := .int) (v := .int (nI (at_ + bN (if (if good = true then (if allowed = true then true else false) else false) = true then true else false)))) (C := RX6) (T := TX6) (N := 15) hx hb hw in_X6 tyX6 tyX6_ok nmX6 hown hK hP hD hS 0 rfl rfl 11 (by decide) (hw _ aw_882) (fun _ h9 => h9) rfl (by decide +kernel) rfl rfl (Nat.le_of_ble_eq_true rfl) dX6_take_38 (ws' := [mdC q refusal isShot states length (at_ + bN (if (if good = true then (if allowed = true then true else false) else false) = true then true else false)) (if good = true then (if allowed = true then true else false) else false) runs did].flatten) rfl (fun H locs hP hD hS => ?_)
      rw [← hQQ]; exact W.vret hx hb hr (ct_end (F := (f_X6_take at_ good allowed)) (u := ((at_ + bN (if (if good = true then (if allowed = true then true else false) else false) = true then true else false)), (if good = true then (if allowed = true then true else false) else false))) (rf := (fun _ => none)) (wf := (fun u => [mdC q refusal isShot states length u.1 u.2 runs did].flatten)) rfl rfl hP hD hS) hS.2.2 dX6_take_41
    refine bv_ifeq hx hb (if good = true then (if allowed = true then true else false) else false) 36 dX6_take_29 (by decide) (fun c_11 => ?_) (fun c_11 => ?_)
    · refine lv_iconst (v := 0) hx hb dX6_take_36 (by decide) ?_
      exact hM_15 false _ _ _ (if_neg c_11).symm (lv_sub hl [] rfl) hP hD hS
    · refine lv_iconst (v := 1) hx hb dX6_take_32 (by decide) ?_
      refine lv_goto (tgt := 37) hx hb dX6_take_33 (by decide) ?_
      exact hM_15 true _ _ _ (if_pos c_11).symm (lv_sub hl [] rfl) hP hD hS
  refine bv_ifeq hx hb good 16 dX6_take_5 (by decide) (fun c_1 => ?_) (fun c_1 => ?_)
  · refine lv_iconst (v := 0) hx hb dX6_take_16 (by decide) ?_
    exact hM_10 false _ _ _ (if_neg c_1).symm (lv_sub hl [0] rfl) hP hD hS
  · refine lv_iload_n hx hb dX6_take_8 rfl (lv_at hl 1 rfl) ?_
    have hM_7 : ∀ (v_6 : Bool) (ls : Array Slot) (H : Heap) (locs : List Loc), v_6 = (if allowed = true then true else false) → lv_has ls 2 [(0, .ref (q 0))] → va_P G classes [mdC q refusal isShot states length at_ good runs did].flatten H → va_D A [mdC q refusal isShot states length at_ good runs did].flatten → va_S A s.heap H locs → W p l e ({ frames := 0, cells := 0, slots := 0, locals := 0 } : Room) s m args below meth c H locs 0 0 QQ (F0 m 17 ls [.int (bI v_6), .ref (q 0)]) := by
      intro v_6 ls H locs e_v_6 hl hP hD hS
      subst e_v_6
      exact hM_10 (if allowed = true then true else false) _ _ _ (if_pos c_1).symm (lv_sub hl [0] rfl) hP hD hS
    refine bv_ifeq hx hb allowed 16 dX6_take_9 (by decide) (fun c_3 => ?_) (fun c_3 => ?_)
    · refine lv_iconst (v := 0) hx hb dX6_take_16 (by decide) ?_
      exact hM_7 false _ _ _ (if_neg c_3).symm (lv_sub hl [0] rfl) hP hD hS
    · refine lv_iconst (v := 1) hx hb dX6_take_12 (by decide) ?_
      refine lv_goto (tgt := 17) hx hb dX6_take_13 (by decide) ?_
      exact hM_7 true _ _ _ (if_pos c_3).symm (lv_sub hl [0] rfl) hP hD hS
def f_X6_digit (length : Nat) (at_ : Nat) (good : Bool) (text : Nat → Int32) (least : Int32) (most : Int32) : Int32 × Nat × Bool := ((if ((f_X6_take at_ good (f_X6_in (((f_X6_here length at_ text) - (48 : Int32)).toInt64) least.toInt64 most.toInt64)).2) = true then ((f_X6_here length at_ text) - (48 : Int32)) else least), (f_X6_take at_ good (f_X6_in (((f_X6_here length at_ text) - (48 : Int32)).toInt64) least.toInt64 most.toInt64)).1, (f_X6_take at_ good (f_X6_in (((f_X6_here length at_ text) - (48 : Int32)).toInt64) least.toInt64 most.toInt64)).2)
set_option maxRecDepth 100000 in
set_option maxHeartbeats 4000000 in
theorem k_X6_digit (l : Launch) (G : va_G) (cI cS cL : ClassId) (q : Nat → Nat) (refusal : Int32) (isShot : Bool) (states : Nat) (length : Nat) (at_ : Nat) (good : Bool) (runs : Bool) (did : Int32) (text : Nat → Int32) (least : Int32) (most : Int32) (hat : at_ < 90000) (hln : length ≤ 60) : Ct l G (tyl cI cS cL) yX6_digit cX6_digit 4 (some (Jvm.ClassFile.FieldType.int)) 1 25 0 0 [.ref (q 0), .int least, .int most] [mdC q refusal isShot states length at_ good runs did, rwC (q 7) cI 60 text].flatten (f_X6_digit length at_ good text least most) (fun u => some (.int u.1)) (fun u => [mdC q refusal isShot states length u.2.1 u.2.2 runs did, rwC (q 7) cI 60 text].flatten) := by
  refine Ct.of (by decide +kernel) (Nat.le_of_ble_eq_true rfl) ?_
  intro p e s m args below meth c A ls hx hb hr hml hw hown hlocks hin hK hN hP hD hS hA hl
  have hown : s.vm.findClass RX6 = some m.cls := hown
  have X : Cx p s m args c cX6_digit 4 RX6 G (tyl cI cS cL) := ⟨hx, hb, hml, hown, hw, hK, hN⟩
  have hP : va_P G classes [mdC q refusal isShot states length at_ good runs did, rwC (q 7) cI 60 text].flatten s.heap := hP
  have hl : lv_has ls 4 [(0, .ref (q 0)), (1, .int least), (2, .int most)] := hl
  generalize hQQ : MQ below _ args s 0 0 A = QQ
  refine lv_aload_n hx hb dX6_digit_0 rfl (lv_at hl 0 rfl) ?_
  refine ct_callV (As := []) (rest := []) X hP hD hS hA (k_X6_here l G cI cS cL q refusal isShot states length at_ good runs did text (by omega) (by omega)) cp_X6_here aw_1044 ⟨Nat.le_of_ble_eq_true rfl, Nat.le_of_ble_eq_true rfl⟩ [0, 1] (cs := [mdC q refusal isShot states length at_ good runs did, rwC (q 7) cI 60 text]) rfl (by decide) (cs' := [mdC q refusal isShot states length at_ good runs did, rwC (q 7) cI 60 text]) rfl rfl 4 rfl rfl (q0 := 0) rfl rfl hl.1 rfl (Nat.le_of_ble_eq_true rfl) dX6_digit_1 ⟨Nat.zero_le _, Nat.zero_le _⟩ rfl (bs' := [mdC q refusal isShot states length at_ good runs did, rwC (q 7) cI 60 text]) rfl (fun H locs hP hD hS => ?_)
  refine lv_bipush (v := 48) hx hb dX6_digit_4 (by decide) ?_
  refine lv_isub hx hb dX6_digit_6 ?_
  refine lv_istore_n (lv' := [(3, .int ((f_X6_here length at_ text) - (48 : Int32))), (0, .ref (q 0)), (1, .int least), (2, .int most)]) hx hb dX6_digit_7 rfl hl (by decide) rfl (fun ls hl => ?_)
  refine lv_aload_n hx hb dX6_digit_8 rfl (lv_at hl 1 rfl) ?_
  refine lv_iload_n hx hb dX6_digit_9 rfl (lv_at hl 0 rfl) ?_
  refine lv_i2l hx hb dX6_digit_10 rfl ?_
  refine lv_iload_n hx hb dX6_digit_11 rfl (lv_at hl 2 rfl) ?_
  refine lv_i2l hx hb dX6_digit_12 rfl ?_
  refine lv_iload_n hx hb dX6_digit_13 rfl (lv_at hl 3 rfl) ?_
  refine lv_i2l hx hb dX6_digit_14 rfl ?_
  refine ct_callS (As := [.long (((f_X6_here length at_ text) - (48 : Int32)).toInt64), .long least.toInt64, .long most.toInt64]) (rest := [.ref (q 0)]) X hP hD hS hA (k_X6_in l G cI cS cL  (((f_X6_here length at_ text) - (48 : Int32)).toInt64) least.toInt64 most.toInt64) cq_X6_in aw_926 ⟨Nat.le_of_ble_eq_true rfl, Nat.le_of_ble_eq_true rfl⟩ ([] : List Nat) (cs := []) rfl (by decide) (cs' := []) rfl rfl rfl hl.1 rfl (Nat.le_of_ble_eq_true rfl) dX6_digit_15 ⟨Nat.zero_le _, Nat.zero_le _⟩ rfl (bs' := [mdC q refusal isShot states length at_ good runs did, rwC (q 7) cI 60 text]) rfl (fun H locs hP hD hS => ?_)
  refine ct_callV (As := [.int (bI (f_X6_in (((f_X6_here length at_ text) - (48 : Int32)).toInt64) least.toInt64 most.toInt64))]) (rest := []) X hP hD hS hA (k_X6_take l G cI cS cL q refusal isShot states length at_ good runs did (f_X6_in (((f_X6_here length at_ text) - (48 : Int32)).toInt64) least.toInt64 most.toInt64)) cp_X6_take aw_1048 ⟨Nat.le_of_ble_eq_true rfl, Nat.le_of_ble_eq_true rfl⟩ [0] (cs := [mdC q refusal isShot states length at_ good runs did]) rfl (by decide) (cs' := [mdC q refusal isShot states length ((f_X6_take at_ good (f_X6_in (((f_X6_here length at_ text) - (48 : Int32)).toInt64) least.toInt64 most.toInt64)).1) ((f_X6_take at_ good (f_X6_in (((f_X6_here length at_ text) - (48 : Int32)).toInt64) least.toInt64 most.toInt64)).2) runs did]) rfl rfl 4 rfl rfl (q0 := 0) rfl rfl hl.1 rfl (Nat.le_of_ble_eq_true rfl) dX6_digit_18 ⟨Nat.zero_le _, Nat.zero_le _⟩ rfl (bs' := [mdC q refusal isShot states length ((f_X6_take at_ good (f_X6_in (((f_X6_here length at_ text) - (48 : Int32)).toInt64) least.toInt64 most.toInt64)).1) ((f_X6_take at_ good (f_X6_in (((f_X6_here length at_ text) - (48 : Int32)).toInt64) least.toInt64 most.toInt64)).2) runs did, rwC (q 7) cI 60 text]) rfl (fun H locs hP hD hS => ?_)
  refine lv_aload_n hx hb dX6_digit_21 rfl (lv_at hl 1 rfl) ?_
  refine va_get (D := G) (ci := 4) (C := RX6) (T := TX6) (N := 15) hx hb hw in_X6 hown hK hP 0 rfl rfl 12 (by decide) (hw _ aw_883) (fun _ h9 => h9) rfl dX6_digit_22 ?_
  have hM_5 : ∀ (v_4 : Int32) (ls : Array Slot) (H : Heap) (locs : List Loc), v_4 = (if ((f_X6_take at_ good (f_X6_in (((f_X6_here length at_ text) - (48 : Int32)).toInt64) least.toInt64 most.toInt64)).2) = true then ((f_X6_here length at_ text) - (48 : Int32)) else least) → lv_has ls 4 [] → va_P G classes [mdC q refusal isShot states length ((f_X6_take at_ good (f_X6_in (((f_X6_here length at_ text) - (48 : Int32)).toInt64) least.toInt64 most.toInt64)).1) ((f_X6_take at_ good (f_X6_in (((f_X6_here length at_ text) - (48 : Int32)).toInt64) least.toInt64 most.toInt64)).2) runs did, rwC (q 7) cI 60 text].flatten H → va_D A [mdC q refusal isShot states length ((f_X6_take at_ good (f_X6_in (((f_X6_here length at_ text) - (48 : Int32)).toInt64) least.toInt64 most.toInt64)).1) ((f_X6_take at_ good (f_X6_in (((f_X6_here length at_ text) - (48 : Int32)).toInt64) least.toInt64 most.toInt64)).2) runs did, rwC (q 7) cI 60 text].flatten → va_S A s.heap H locs → W p l e ({ frames := 1, cells := 0, slots := 0, locals := 25 } : Room) s m args below meth c H locs 0 0 QQ (F0 m 33 ls [.int v_4]) := by
    intro v_4 ls H locs e_v_4 hl hP hD hS
    subst e_v_4
    rw [← hQQ]; exact W.iret hx hb hr (ct_end (F := (f_X6_digit length at_ good text least most)) (u := ((if ((f_X6_take at_ good (f_X6_in (((f_X6_here length at_ text) - (48 : Int32)).toInt64) least.toInt64 most.toInt64)).2) = true then ((f_X6_here length at_ text) - (48 : Int32)) else least), (f_X6_take at_ good (f_X6_in (((f_X6_here length at_ text) - (48 : Int32)).toInt64) least.toInt64 most.toInt64)).1, (f_X6_take at_ good (f_X6_in (((f_X6_here length at_ text) - (48 : Int32)).toInt64) least.toInt64 most.toInt64)).2)) (rf := (fun u => some (.int u.1))) (wf := (fun u => [mdC q refusal isShot states length u.2.1 u.2.2 runs did, rwC (q 7) cI 60 text].flatten)) rfl rfl hP hD hS) hS.2.2 dX6_digit_33
  refine bv_ifeq hx hb ((f_X6_take at_ good (f_X6_in (((f_X6_here length at_ text) - (48 : Int32)).toInt64) least.toInt64 most.toInt64)).2) 32 dX6_digit_25 (by decide) (fun c_1 => ?_) (fun c_1 => ?_)
  · refine lv_iload_n hx hb dX6_digit_32 rfl (lv_at hl 2 rfl) ?_
    exact hM_5 least _ _ _ (if_neg c_1).symm (lv_sub hl [] rfl) hP hD hS
  · refine lv_iload_n hx hb dX6_digit_28 rfl (lv_at hl 0 rfl) ?_
    refine lv_goto (tgt := 33) hx hb dX6_digit_29 (by decide) ?_
    exact hM_5 ((f_X6_here length at_ text) - (48 : Int32)) _ _ _ (if_pos c_1).symm (lv_sub hl [] rfl) hP hD hS
theorem take_at (at_ : Nat) (good allowed : Bool) : at_ ≤ (f_X6_take at_ good allowed).1 ∧ (f_X6_take at_ good allowed).1 ≤ at_ + 1 := by
  unfold f_X6_take
  cases good <;> cases allowed <;> simp [bN]
theorem digit_at (length at_ : Nat) (good : Bool) (text : Nat → Int32) (least most : Int32) : at_ ≤ (f_X6_digit length at_ good text least most).2.1 ∧ (f_X6_digit length at_ good text least most).2.1 ≤ at_ + 1 := take_at _ _ _
theorem here_dig {length at_ : Nat} {text : Nat → Int32} (h : f_X6_in (f_X6_here length at_ text).toInt64 48 57 = true) : at_ < length := by
  unfold f_X6_here at h
  split at h
  · exact absurd h (by decide)
  · omega
def L_X6_number_8 (length : Nat) (at_ : Nat) (good : Bool) (text : Nat → Int32) (most : Int32) : Nat → (Int32 × Nat) → (Int32 × Nat) ⊕ (Int32 × Nat) := fun _ s8 => (if ((f_X6_digit length at_ good text (1 : Int32) (9 : Int32)).2.2) = true then (if (f_X6_in ((f_X6_here length s8.2 text).toInt64) (48 : Int64) (57 : Int64)) = true then (if most < ((((10 : Int32) * s8.1) + (f_X6_here length s8.2 text)) - (48 : Int32)) then .inr s8 else .inl (((((10 : Int32) * s8.1) + (f_X6_here length s8.2 text)) - (48 : Int32)), (s8.2 + 1))) else .inr s8) else .inr s8)
def f_X6_number (length : Nat) (at_ : Nat) (good : Bool) (text : Nat → Int32) (most : Int32) : Int32 × Nat × Bool := ((unx (itx (L_X6_number_8 length at_ good text most) 0 63 ((f_X6_digit length at_ good text (1 : Int32) (9 : Int32)).1, (f_X6_digit length at_ good text (1 : Int32) (9 : Int32)).2.1))).1, (unx (itx (L_X6_number_8 length at_ good text most) 0 63 ((f_X6_digit length at_ good text (1 : Int32) (9 : Int32)).1, (f_X6_digit length at_ good text (1 : Int32) (9 : Int32)).2.1))).2, (f_X6_digit length at_ good text (1 : Int32) (9 : Int32)).2.2)
set_option maxRecDepth 100000 in
set_option maxHeartbeats 4000000 in
theorem k_X6_number (l : Launch) (G : va_G) (cI cS cL : ClassId) (q : Nat → Nat) (refusal : Int32) (isShot : Bool) (states : Nat) (length : Nat) (at_ : Nat) (good : Bool) (runs : Bool) (did : Int32) (text : Nat → Int32) (most : Int32) (hat : at_ < 80000) (hln : length ≤ 60) : Ct l G (tyl cI cS cL) yX6_number cX6_number 3 (some (Jvm.ClassFile.FieldType.int)) 2 48 0 0 [.ref (q 0), .int most] [mdC q refusal isShot states length at_ good runs did, rwC (q 7) cI 60 text].flatten (f_X6_number length at_ good text most) (fun u => some (.int u.1)) (fun u => [mdC q refusal isShot states length u.2.1 u.2.2 runs did, rwC (q 7) cI 60 text].flatten) := by
  refine Ct.of (by decide +kernel) (Nat.le_of_ble_eq_true rfl) ?_
  intro p e s m args below meth c A ls hx hb hr hml hw hown hlocks hin hK hN hP hD hS hA hl
  have hown : s.vm.findClass RX6 = some m.cls := hown
  have X : Cx p s m args c cX6_number 3 RX6 G (tyl cI cS cL) := ⟨hx, hb, hml, hown, hw, hK, hN⟩
  have hP : va_P G classes [mdC q refusal isShot states length at_ good runs did, rwC (q 7) cI 60 text].flatten s.heap := hP
  have hl : lv_has ls 3 [(0, .ref (q 0)), (1, .int most)] := hl
  generalize hQQ : MQ below _ args s 0 0 A = QQ
  refine lv_aload_n hx hb dX6_number_0 rfl (lv_at hl 0 rfl) ?_
  refine lv_iconst (v := 1) hx hb dX6_number_1 (by decide) ?_
  refine lv_bipush (v := 9) hx hb dX6_number_2 (by decide) ?_
  refine ct_callV (As := [.int (1 : Int32), .int (9 : Int32)]) (rest := []) X hP hD hS hA (k_X6_digit l G cI cS cL q refusal isShot states length at_ good runs did text (1 : Int32) (9 : Int32) (by omega) hln) cp_X6_digit aw_1056 ⟨Nat.le_of_ble_eq_true rfl, Nat.le_of_ble_eq_true rfl⟩ [0, 1] (cs := [mdC q refusal isShot states length at_ good runs did, rwC (q 7) cI 60 text]) rfl (by decide) (cs' := [mdC q refusal isShot states length ((f_X6_digit length at_ good text (1 : Int32) (9 : Int32)).2.1) ((f_X6_digit length at_ good text (1 : Int32) (9 : Int32)).2.2) runs did, rwC (q 7) cI 60 text]) rfl rfl 4 rfl rfl (q0 := 0) rfl rfl hl.1 rfl (Nat.le_of_ble_eq_true rfl) dX6_number_4 ⟨Nat.zero_le _, Nat.zero_le _⟩ rfl (bs' := [mdC q refusal isShot states length ((f_X6_digit length at_ good text (1 : Int32) (9 : Int32)).2.1) ((f_X6_digit length at_ good text (1 : Int32) (9 : Int32)).2.2) runs did, rwC (q 7) cI 60 text]) rfl (fun H locs hP hD hS => ?_)
  refine lv_istore_n (lv' := [(2, .int ((f_X6_digit length at_ good text (1 : Int32) (9 : Int32)).1)), (0, .ref (q 0)), (1, .int most)]) hx hb dX6_number_7 rfl hl (by decide) rfl (fun ls hl => ?_)
  have hX8 : ∀ (ls : Array Slot) (H : Heap) (locs : List Loc), lv_has ls 3 [(2, .int ((unx (itx (L_X6_number_8 length at_ good text most) 0 63 ((f_X6_digit length at_ good text (1 : Int32) (9 : Int32)).1, (f_X6_digit length at_ good text (1 : Int32) (9 : Int32)).2.1))).1))] → va_P G classes [mdC q refusal isShot states length ((unx (itx (L_X6_number_8 length at_ good text most) 0 63 ((f_X6_digit length at_ good text (1 : Int32) (9 : Int32)).1, (f_X6_digit length at_ good text (1 : Int32) (9 : Int32)).2.1))).2) ((f_X6_digit length at_ good text (1 : Int32) (9 : Int32)).2.2) runs did, rwC (q 7) cI 60 text].flatten H → va_D A [mdC q refusal isShot states length ((unx (itx (L_X6_number_8 length at_ good text most) 0 63 ((f_X6_digit length at_ good text (1 : Int32) (9 : Int32)).1, (f_X6_digit length at_ good text (1 : Int32) (9 : Int32)).2.1))).2) ((f_X6_digit length at_ good text (1 : Int32) (9 : Int32)).2.2) runs did, rwC (q 7) cI 60 text].flatten → va_S A s.heap H locs → W p l e ({ frames := 2, cells := 0, slots := 0, locals := 48 } : Room) s m args below meth c H locs 0 0 QQ (F0 m 74 ls []) := by
    intro ls H locs hl hP hD hS
    refine lv_iload_n hx hb dX6_number_74 rfl (lv_at hl 0 rfl) ?_
    rw [← hQQ]; exact W.iret hx hb hr (ct_end (F := (f_X6_number length at_ good text most)) (u := ((unx (itx (L_X6_number_8 length at_ good text most) 0 63 ((f_X6_digit length at_ good text (1 : Int32) (9 : Int32)).1, (f_X6_digit length at_ good text (1 : Int32) (9 : Int32)).2.1))).1, (unx (itx (L_X6_number_8 length at_ good text most) 0 63 ((f_X6_digit length at_ good text (1 : Int32) (9 : Int32)).1, (f_X6_digit length at_ good text (1 : Int32) (9 : Int32)).2.1))).2, (f_X6_digit length at_ good text (1 : Int32) (9 : Int32)).2.2)) (rf := (fun u => some (.int u.1))) (wf := (fun u => [mdC q refusal isShot states length u.2.1 u.2.2 runs did, rwC (q 7) cI 60 text].flatten)) rfl rfl hP hD hS) hS.2.2 dX6_number_75
  refine itx_loopK (f := (L_X6_number_8 length at_ good text most)) 63 (fun (k : Nat) (s8 : Int32 × Nat) => s8.2 = ((f_X6_digit length at_ good text (1 : Int32) (9 : Int32)).2.1) + k ∧ (k = 0 ∨ s8.2 ≤ length)) (fun (s8 : Int32 × Nat) => ∀ (ls : Array Slot) (H : Heap) (locs : List Loc), lv_has ls 3 [(2, .int s8.1), (0, .ref (q 0)), (1, .int most)] → va_P G classes [mdC q refusal isShot states length s8.2 ((f_X6_digit length at_ good text (1 : Int32) (9 : Int32)).2.2) runs did, rwC (q 7) cI 60 text].flatten H → va_D A [mdC q refusal isShot states length s8.2 ((f_X6_digit length at_ good text (1 : Int32) (9 : Int32)).2.2) runs did, rwC (q 7) cI 60 text].flatten → va_S A s.heap H locs → W p l e ({ frames := 2, cells := 0, slots := 0, locals := 48 } : Room) s m args below meth c H locs 0 0 QQ (F0 m 8 ls [])) (itx (L_X6_number_8 length at_ good text most) 0 63 ((f_X6_digit length at_ good text (1 : Int32) (9 : Int32)).1, (f_X6_digit length at_ good text (1 : Int32) (9 : Int32)).2.1)) (fun k8 s8 hk hT8 hI ih => ?_) (fun s h => by obtain ⟨h1, h2⟩ := h; omega) 63 0 ((f_X6_digit length at_ good text (1 : Int32) (9 : Int32)).1, (f_X6_digit length at_ good text (1 : Int32) (9 : Int32)).2.1) (by omega) (⟨rfl, Or.inl rfl⟩) rfl ls _ _ (lv_sub hl [0, 1, 2] rfl) hP hD hS
  · intro ls H locs hl hP hD hS
    obtain ⟨hI1, hI2⟩ := hI
    have hd0 := digit_at length at_ good text 1 9
    refine lv_aload_n hx hb dX6_number_8 rfl (lv_at hl 1 rfl) ?_
    refine va_get (D := G) (ci := 4) (C := RX6) (T := TX6) (N := 15) hx hb hw in_X6 hown hK hP 0 rfl rfl 12 (by decide) (hw _ aw_883) (fun _ h9 => h9) rfl dX6_number_9 ?_
    refine bv_ifeq hx hb ((f_X6_digit length at_ good text (1 : Int32) (9 : Int32)).2.2) 74 dX6_number_12 (by decide) (fun c_2 => ?_) (fun c_2 => ?_)
    · rw [hT8 s8 (by first | (unfold L_X6_number_8; rw [if_neg c_2]; first | done | rfl) | (unfold L_X6_number_8; simp only [if_neg c_2]))] at hX8; exact hX8 _ _ _ (lv_sub hl [0] rfl) hP hD hS
    · refine lv_aload_n hx hb dX6_number_15 rfl (lv_at hl 1 rfl) ?_
      refine ct_callV (As := []) (rest := []) X hP hD hS hA (k_X6_here l G cI cS cL q refusal isShot states length s8.2 ((f_X6_digit length at_ good text (1 : Int32) (9 : Int32)).2.2) runs did text (by omega) hln) cp_X6_here aw_1044 ⟨Nat.le_of_ble_eq_true rfl, Nat.le_of_ble_eq_true rfl⟩ [0, 1] (cs := [mdC q refusal isShot states length s8.2 ((f_X6_digit length at_ good text (1 : Int32) (9 : Int32)).2.2) runs did, rwC (q 7) cI 60 text]) rfl (by decide) (cs' := [mdC q refusal isShot states length s8.2 ((f_X6_digit length at_ good text (1 : Int32) (9 : Int32)).2.2) runs did, rwC (q 7) cI 60 text]) rfl rfl 4 rfl rfl (q0 := 0) rfl rfl hl.1 rfl (Nat.le_of_ble_eq_true rfl) dX6_number_16 ⟨Nat.zero_le _, Nat.zero_le _⟩ rfl (bs' := [mdC q refusal isShot states length s8.2 ((f_X6_digit length at_ good text (1 : Int32) (9 : Int32)).2.2) runs did, rwC (q 7) cI 60 text]) rfl (fun H locs hP hD hS => ?_)
      refine lv_i2l hx hb dX6_number_19 rfl ?_
      refine lv_ldc2 hx hb hown (hw _ aw_1064) dX6_number_20 ?_
      refine lv_ldc2 hx hb hown (hw _ aw_1065) dX6_number_23 ?_
      refine ct_callS (As := [.long ((f_X6_here length s8.2 text).toInt64), .long (48 : Int64), .long (57 : Int64)]) (rest := []) X hP hD hS hA (k_X6_in l G cI cS cL  ((f_X6_here length s8.2 text).toInt64) (48 : Int64) (57 : Int64)) cq_X6_in aw_926 ⟨Nat.le_of_ble_eq_true rfl, Nat.le_of_ble_eq_true rfl⟩ ([] : List Nat) (cs := []) rfl (by decide) (cs' := []) rfl rfl rfl hl.1 rfl (Nat.le_of_ble_eq_true rfl) dX6_number_26 ⟨Nat.zero_le _, Nat.zero_le _⟩ rfl (bs' := [mdC q refusal isShot states length s8.2 ((f_X6_digit length at_ good text (1 : Int32) (9 : Int32)).2.2) runs did, rwC (q 7) cI 60 text]) rfl (fun H locs hP hD hS => ?_)
      refine bv_ifeq hx hb (f_X6_in ((f_X6_here length s8.2 text).toInt64) (48 : Int64) (57 : Int64)) 74 dX6_number_29 (by decide) (fun c_18 => ?_) (fun c_18 => ?_)
      · rw [hT8 s8 (by first | (unfold L_X6_number_8; rw [if_pos c_2, if_neg c_18]; first | done | rfl) | (unfold L_X6_number_8; simp only [if_pos c_2, if_neg c_18]))] at hX8; exact hX8 _ _ _ (lv_sub hl [0] rfl) hP hD hS
      · refine lv_bipush (v := 10) hx hb dX6_number_32 (by decide) ?_
        refine lv_iload_n hx hb dX6_number_34 rfl (lv_at hl 0 rfl) ?_
        refine lv_imul hx hb dX6_number_35 ?_
        refine lv_aload_n hx hb dX6_number_36 rfl (lv_at hl 1 rfl) ?_
        refine ct_callV (As := []) (rest := [.int ((10 : Int32) * s8.1)]) X hP hD hS hA (k_X6_here l G cI cS cL q refusal isShot states length s8.2 ((f_X6_digit length at_ good text (1 : Int32) (9 : Int32)).2.2) runs did text (by omega) hln) cp_X6_here aw_1044 ⟨Nat.le_of_ble_eq_true rfl, Nat.le_of_ble_eq_true rfl⟩ [0, 1] (cs := [mdC q refusal isShot states length s8.2 ((f_X6_digit length at_ good text (1 : Int32) (9 : Int32)).2.2) runs did, rwC (q 7) cI 60 text]) rfl (by decide) (cs' := [mdC q refusal isShot states length s8.2 ((f_X6_digit length at_ good text (1 : Int32) (9 : Int32)).2.2) runs did, rwC (q 7) cI 60 text]) rfl rfl 4 rfl rfl (q0 := 0) rfl rfl hl.1 rfl (Nat.le_of_ble_eq_true rfl) dX6_number_37 ⟨Nat.zero_le _, Nat.zero_le _⟩ rfl (bs' := [mdC q refusal isShot states length s8.2 ((f_X6_digit length at_ good text (1 : Int32) (9 : Int32)).2.2) runs did, rwC (q 7) cI 60 text]) rfl (fun H locs hP hD hS => ?_)
        refine lv_iadd hx hb dX6_number_40 ?_
        refine lv_bipush (v := 48) hx hb dX6_number_41 (by decide) ?_
        refine lv_isub hx hb dX6_number_43 ?_
        refine lv_iload_n hx hb dX6_number_44 rfl (lv_at hl 2 rfl) ?_
        refine lv_icmp_gt (tgt := 74) hx hb dX6_number_45 (by decide) (fun c_26 => ?_) (fun c_26 => ?_)
        · rw [hT8 s8 (by first | (unfold L_X6_number_8; rw [if_pos c_2, if_pos c_18, if_pos c_26]; first | done | rfl) | (unfold L_X6_number_8; simp only [if_pos c_2, if_pos c_18, if_pos c_26]))] at hX8; exact hX8 _ _ _ (lv_sub hl [0] rfl) hP hD hS
        · refine lv_bipush (v := 10) hx hb dX6_number_48 (by decide) ?_
          refine lv_iload_n hx hb dX6_number_50 rfl (lv_at hl 0 rfl) ?_
          refine lv_imul hx hb dX6_number_51 ?_
          refine lv_aload_n hx hb dX6_number_52 rfl (lv_at hl 1 rfl) ?_
          refine ct_callV (As := []) (rest := [.int ((10 : Int32) * s8.1)]) X hP hD hS hA (k_X6_here l G cI cS cL q refusal isShot states length s8.2 ((f_X6_digit length at_ good text (1 : Int32) (9 : Int32)).2.2) runs did text (by omega) hln) cp_X6_here aw_1044 ⟨Nat.le_of_ble_eq_true rfl, Nat.le_of_ble_eq_true rfl⟩ [0, 1] (cs := [mdC q refusal isShot states length s8.2 ((f_X6_digit length at_ good text (1 : Int32) (9 : Int32)).2.2) runs did, rwC (q 7) cI 60 text]) rfl (by decide) (cs' := [mdC q refusal isShot states length s8.2 ((f_X6_digit length at_ good text (1 : Int32) (9 : Int32)).2.2) runs did, rwC (q 7) cI 60 text]) rfl rfl 4 rfl rfl (q0 := 0) rfl rfl hl.1 rfl (Nat.le_of_ble_eq_true rfl) dX6_number_53 ⟨Nat.zero_le _, Nat.zero_le _⟩ rfl (bs' := [mdC q refusal isShot states length s8.2 ((f_X6_digit length at_ good text (1 : Int32) (9 : Int32)).2.2) runs did, rwC (q 7) cI 60 text]) rfl (fun H locs hP hD hS => ?_)
          refine lv_iadd hx hb dX6_number_56 ?_
          refine lv_bipush (v := 48) hx hb dX6_number_57 (by decide) ?_
          refine lv_isub hx hb dX6_number_59 ?_
          refine lv_istore_n (lv' := [(2, .int ((((10 : Int32) * s8.1) + (f_X6_here length s8.2 text)) - (48 : Int32))), (0, .ref (q 0)), (1, .int most)]) hx hb dX6_number_60 rfl hl (by decide) rfl (fun ls hl => ?_)
          refine lv_aload_n hx hb dX6_number_61 rfl (lv_at hl 1 rfl) ?_
          refine lv_dup hx hb dX6_number_62 rfl ?_
          refine va_get (D := G) (ci := 4) (C := RX6) (T := TX6) (N := 15) hx hb hw in_X6 hown hK hP 0 rfl rfl 11 (by decide) (hw _ aw_882) (fun _ h9 => h9) rfl dX6_number_63 ?_
          refine lv_iconst (v := 1) hx hb dX6_number_66 (by decide) ?_
          refine nv_iadd hx hb s8.2 1 dX6_number_67 ?_
          refine nv_put (D := G) (ci := 4) (ty := .int) (v := .int (nI (s8.2 + 1))) (C := RX6) (T := TX6) (N := 15) hx hb hw in_X6 tyX6 tyX6_ok nmX6 hown hK hP hD hS 0 rfl rfl 11 (by decide) (hw _ aw_882) (fun _ h9 => h9) rfl (by decide +kernel) rfl rfl (Nat.le_of_ble_eq_true rfl) dX6_number_68 (ws' := [mdC q refusal isShot states length (s8.2 + 1) ((f_X6_digit length at_ good text (1 : Int32) (9 : Int32)).2.2) runs did, rwC (q 7) cI 60 text].flatten) rfl (fun H locs hP hD hS => ?_)
          refine lv_goto (tgt := 8) hx hb dX6_number_71 (by decide) ?_
          exact ih (((((10 : Int32) * s8.1) + (f_X6_here length s8.2 text)) - (48 : Int32)), (s8.2 + 1)) (by first | (unfold L_X6_number_8; rw [if_pos c_2, if_pos c_18, if_neg c_26]; first | done | rfl) | (unfold L_X6_number_8; simp only [if_pos c_2, if_pos c_18, if_neg c_26])) (⟨by omega, Or.inr (by have := here_dig (by assumption); omega)⟩) _ _ _ (lv_sub hl [0, 1, 2] rfl) hP hD hS
