def iS_beams : Nat → Int32 := (upd (upd (upd (upd (upd (upd (upd (upd (fun _ => 0) 0 (0 : Int32)) 1 (1 : Int32)) 2 (2 : Int32)) 3 (0 : Int32)) 4 (1 : Int32)) 5 (2 : Int32)) 6 (0 : Int32)) 7 (1 : Int32))
def iS_speeds : Nat → Int32 := (upd (upd (upd (upd (upd (upd (upd (upd (fun _ => 0) 0 (30 : Int32)) 1 (31 : Int32)) 2 (32 : Int32)) 3 (33 : Int32)) 4 (34 : Int32)) 5 (35 : Int32)) 6 (36 : Int32)) 7 (37 : Int32))
def iS_phases : Nat → Int32 := (upd (upd (upd (upd (upd (upd (upd (upd (fun _ => 0) 0 (0 : Int32)) 1 (100 : Int32)) 2 (200 : Int32)) 3 (300 : Int32)) 4 (400 : Int32)) 5 (500 : Int32)) 6 (600 : Int32)) 7 (700 : Int32))
def iS_springs : Nat → Int32 := (upd (upd (upd (upd (upd (upd (upd (upd (fun _ => 0) 0 (50 : Int32)) 1 (50 : Int32)) 2 (50 : Int32)) 3 (50 : Int32)) 4 (50 : Int32)) 5 (50 : Int32)) 6 (50 : Int32)) 7 (50 : Int32))
def iS_strikes : Nat → Int32 := (fun _ => 0)
def iS_ways : Nat → Int32 := (fun _ => 0)
def iS_kickSums : Nat → Int32 := (fun _ => 0)
def iS_nearTicks : Nat → Int32 := (fun _ => 0)
def iS_gives : Nat → Int32 := (upd (upd (upd (fun _ => 0) 0 (4 : Int32)) 1 (4 : Int32)) 2 (4 : Int32))
def iS_settings : Nat → Int32 := (upd (upd (upd (fun _ => 0) 0 (9 : Int32)) 1 (40 : Int32)) 2 (8 : Int32))
def iS_pulls : Nat → Int32 := (fun _ => 0)
def iS_leaders : Nat → Int32 := (fun _ => 0)
def iSt : StT := (iS_beams, iS_speeds, iS_phases, iS_springs, iS_strikes, iS_ways, iS_kickSums, iS_nearTicks, iS_gives, iS_settings, 0, 0, 0, iS_pulls, iS_leaders)
def iM_now : Nat → Int32 := (upd (upd (upd (upd (upd (upd (upd (upd (upd (upd (upd (upd (upd (upd (upd (upd (upd (upd (upd (upd (upd (upd (upd (upd (upd (upd (upd (upd (upd (upd (upd (upd (upd (upd (upd (upd (upd (upd (fun _ => 0) 0 (4 : Int32)) 1 (4 : Int32)) 2 (4 : Int32)) 3 (9 : Int32)) 4 (40 : Int32)) 5 (8 : Int32)) 6 (0 : Int32)) 7 (30 : Int32)) 8 (0 : Int32)) 9 (50 : Int32)) 13 (1 : Int32)) 14 (31 : Int32)) 15 (100 : Int32)) 16 (50 : Int32)) 20 (2 : Int32)) 21 (32 : Int32)) 22 (200 : Int32)) 23 (50 : Int32)) 27 (0 : Int32)) 28 (33 : Int32)) 29 (300 : Int32)) 30 (50 : Int32)) 34 (1 : Int32)) 35 (34 : Int32)) 36 (400 : Int32)) 37 (50 : Int32)) 41 (2 : Int32)) 42 (35 : Int32)) 43 (500 : Int32)) 44 (50 : Int32)) 48 (0 : Int32)) 49 (36 : Int32)) 50 (600 : Int32)) 51 (50 : Int32)) 55 (1 : Int32)) 56 (37 : Int32)) 57 (700 : Int32)) 58 (50 : Int32))
def iM_trial : Nat → Int32 := (fun _ => 0)
def iM_shot : Nat → Int32 := (fun _ => 0)
def iM_book : Nat → Int32 := (fun _ => 0)
def iM_pulls : Nat → Int32 := (fun _ => 0)
def iM_group : Nat → Int32 := (fun _ => 0)
def iM_text : Nat → Int32 := (fun _ => 0)
theorem ci_X2_init : CpI yX2_init cX2_init 2 0 := ⟨aw_158, aw_157, aw_69, rfl, by decide +kernel⟩
theorem ci_X3_init : CpI yX3_init cX3_init 1 0 := ⟨aw_175, aw_174, aw_70, rfl, by decide +kernel⟩
theorem ci_X4_init : CpI yX4_init cX4_init 2 0 := ⟨aw_98, aw_97, aw_68, rfl, by decide +kernel⟩
set_option maxRecDepth 100000 in
set_option maxHeartbeats 8000000 in
theorem k_X4_init (l : Launch) (G : va_G) (cI cS cL : ClassId) (ad : Nat → Nat) (mp : Nat) (a : Nat) : CtN l G (tyl cI cS cL) ad mp yX4_init cX4_init 2 1 20 12 142 [.ref a] [[(a, .inr (2, [.null, .null, .null, .null, .null, .null, .null, .null, .null, .null, .int 0, .int 0, .int 0, .null, .null]))]].flatten (fun x : List Nat => stC (nth (a :: x)) cI iS_beams iS_speeds iS_phases iS_springs iS_strikes iS_ways iS_kickSums iS_nearTicks iS_gives iS_settings 0 0 0 iS_pulls iS_leaders) := by
  refine CtN.of (by decide +kernel) (Nat.le_of_ble_eq_true rfl) ?_
  intro p e s m args below meth c A ls hx hb hr hml hw hown hlocks hin hK hN hE hP hD hS hA hl
  have hown : s.vm.findClass RX4 = some m.cls := hown
  have X : Cx p s m args c cX4_init 2 RX4 G (tyl cI cS cL) := ⟨hx, hb, hml, hown, hw, hK, hN⟩
  have hP : va_P G classes [[(a, .inr (2, [.null, .null, .null, .null, .null, .null, .null, .null, .null, .null, .int 0, .int 0, .int 0, .null, .null]))]].flatten s.heap := hP
  have hl : lv_has ls 2 [(0, .ref a)] := hl
  refine lv_aload_n hx hb dX4_init_0 rfl (lv_at hl 0 rfl) ?_
  refine W.objInit hx hb hown (hw _ aw_99) (hw _ aw_92) (hw _ aw_93) rfl (by rw [hml]; exact hl.1) rfl dX4_init_1 (Nat.le_of_ble_eq_true rfl) (Nat.le_of_ble_eq_true rfl) ?_
  refine W.eq (g2 := F0 m 4 ls []) rfl ?_
  refine lv_aload_n hx hb dX4_init_4 rfl (lv_at hl 0 rfl) ?_
  refine lv_bipush (v := 8) hx hb dX4_init_5 (by decide) ?_
  refine cn_newi X hP hD hS hA 8 (by decide) (by decide) (by decide) (Nat.le_of_ble_eq_true rfl) (Nat.le_of_ble_eq_true rfl) dX4_init_7 (fun r_0 H hP hD hS => ?_)
  have hP : va_P G classes [[(a, .inr (2, [.null, .null, .null, .null, .null, .null, .null, .null, .null, .null, .int 0, .int 0, .int 0, .null, .null]))], rwC r_0 cI 8 (fun _ => 0)].flatten H := hP
  have hD : va_D A [[(a, .inr (2, [.null, .null, .null, .null, .null, .null, .null, .null, .null, .null, .int 0, .int 0, .int 0, .null, .null]))], rwC r_0 cI 8 (fun _ => 0)].flatten := hD
  refine nv_putF (D := G) (ci := 2) (ty := (.array .int)) (v := .ref r_0) (C := RX4) (T := TX4) (N := 15) hx hb hw in_X4 tyX4 tyX4_ok nmX4 hown hK hP hD hS 0 rfl rfl 0 (by decide) (hw _ aw_100) (fun _ h9 => h9) rfl (by rw [hin]; rfl) rfl (by decide +kernel) rfl rfl (Nat.le_of_ble_eq_true rfl) dX4_init_9 (ws' := [[(a, .inr (2, [.ref r_0, .null, .null, .null, .null, .null, .null, .null, .null, .null, .int 0, .int 0, .int 0, .null, .null]))], rwC r_0 cI 8 (fun _ => 0)].flatten) rfl (fun H locs hP hD hS => ?_)
  refine lv_aload_n hx hb dX4_init_12 rfl (lv_at hl 0 rfl) ?_
  refine lv_bipush (v := 8) hx hb dX4_init_13 (by decide) ?_
  refine cn_newi X hP hD hS hA 8 (by decide) (by decide) (by decide) (Nat.le_of_ble_eq_true rfl) (Nat.le_of_ble_eq_true rfl) dX4_init_15 (fun r_1 H hP hD hS => ?_)
  have hP : va_P G classes [[(a, .inr (2, [.ref r_0, .null, .null, .null, .null, .null, .null, .null, .null, .null, .int 0, .int 0, .int 0, .null, .null]))], rwC r_0 cI 8 (fun _ => 0), rwC r_1 cI 8 (fun _ => 0)].flatten H := hP
  have hD : va_D A [[(a, .inr (2, [.ref r_0, .null, .null, .null, .null, .null, .null, .null, .null, .null, .int 0, .int 0, .int 0, .null, .null]))], rwC r_0 cI 8 (fun _ => 0), rwC r_1 cI 8 (fun _ => 0)].flatten := hD
  refine nv_putF (D := G) (ci := 2) (ty := (.array .int)) (v := .ref r_1) (C := RX4) (T := TX4) (N := 15) hx hb hw in_X4 tyX4 tyX4_ok nmX4 hown hK hP hD hS 0 rfl rfl 1 (by decide) (hw _ aw_101) (fun _ h9 => h9) rfl (by rw [hin]; rfl) rfl (by decide +kernel) rfl rfl (Nat.le_of_ble_eq_true rfl) dX4_init_17 (ws' := [[(a, .inr (2, [.ref r_0, .ref r_1, .null, .null, .null, .null, .null, .null, .null, .null, .int 0, .int 0, .int 0, .null, .null]))], rwC r_0 cI 8 (fun _ => 0), rwC r_1 cI 8 (fun _ => 0)].flatten) rfl (fun H locs hP hD hS => ?_)
  refine lv_aload_n hx hb dX4_init_20 rfl (lv_at hl 0 rfl) ?_
  refine lv_bipush (v := 8) hx hb dX4_init_21 (by decide) ?_
  refine cn_newi X hP hD hS hA 8 (by decide) (by decide) (by decide) (Nat.le_of_ble_eq_true rfl) (Nat.le_of_ble_eq_true rfl) dX4_init_23 (fun r_2 H hP hD hS => ?_)
  have hP : va_P G classes [[(a, .inr (2, [.ref r_0, .ref r_1, .null, .null, .null, .null, .null, .null, .null, .null, .int 0, .int 0, .int 0, .null, .null]))], rwC r_0 cI 8 (fun _ => 0), rwC r_1 cI 8 (fun _ => 0), rwC r_2 cI 8 (fun _ => 0)].flatten H := hP
  have hD : va_D A [[(a, .inr (2, [.ref r_0, .ref r_1, .null, .null, .null, .null, .null, .null, .null, .null, .int 0, .int 0, .int 0, .null, .null]))], rwC r_0 cI 8 (fun _ => 0), rwC r_1 cI 8 (fun _ => 0), rwC r_2 cI 8 (fun _ => 0)].flatten := hD
  refine nv_putF (D := G) (ci := 2) (ty := (.array .int)) (v := .ref r_2) (C := RX4) (T := TX4) (N := 15) hx hb hw in_X4 tyX4 tyX4_ok nmX4 hown hK hP hD hS 0 rfl rfl 2 (by decide) (hw _ aw_103) (fun _ h9 => h9) rfl (by rw [hin]; rfl) rfl (by decide +kernel) rfl rfl (Nat.le_of_ble_eq_true rfl) dX4_init_25 (ws' := [[(a, .inr (2, [.ref r_0, .ref r_1, .ref r_2, .null, .null, .null, .null, .null, .null, .null, .int 0, .int 0, .int 0, .null, .null]))], rwC r_0 cI 8 (fun _ => 0), rwC r_1 cI 8 (fun _ => 0), rwC r_2 cI 8 (fun _ => 0)].flatten) rfl (fun H locs hP hD hS => ?_)
  refine lv_aload_n hx hb dX4_init_28 rfl (lv_at hl 0 rfl) ?_
  refine lv_bipush (v := 8) hx hb dX4_init_29 (by decide) ?_
  refine cn_newi X hP hD hS hA 8 (by decide) (by decide) (by decide) (Nat.le_of_ble_eq_true rfl) (Nat.le_of_ble_eq_true rfl) dX4_init_31 (fun r_3 H hP hD hS => ?_)
  have hP : va_P G classes [[(a, .inr (2, [.ref r_0, .ref r_1, .ref r_2, .null, .null, .null, .null, .null, .null, .null, .int 0, .int 0, .int 0, .null, .null]))], rwC r_0 cI 8 (fun _ => 0), rwC r_1 cI 8 (fun _ => 0), rwC r_2 cI 8 (fun _ => 0), rwC r_3 cI 8 (fun _ => 0)].flatten H := hP
  have hD : va_D A [[(a, .inr (2, [.ref r_0, .ref r_1, .ref r_2, .null, .null, .null, .null, .null, .null, .null, .int 0, .int 0, .int 0, .null, .null]))], rwC r_0 cI 8 (fun _ => 0), rwC r_1 cI 8 (fun _ => 0), rwC r_2 cI 8 (fun _ => 0), rwC r_3 cI 8 (fun _ => 0)].flatten := hD
  refine nv_putF (D := G) (ci := 2) (ty := (.array .int)) (v := .ref r_3) (C := RX4) (T := TX4) (N := 15) hx hb hw in_X4 tyX4 tyX4_ok nmX4 hown hK hP hD hS 0 rfl rfl 3 (by decide) (hw _ aw_105) (fun _ h9 => h9) rfl (by rw [hin]; rfl) rfl (by decide +kernel) rfl rfl (Nat.le_of_ble_eq_true rfl) dX4_init_33 (ws' := [[(a, .inr (2, [.ref r_0, .ref r_1, .ref r_2, .ref r_3, .null, .null, .null, .null, .null, .null, .int 0, .int 0, .int 0, .null, .null]))], rwC r_0 cI 8 (fun _ => 0), rwC r_1 cI 8 (fun _ => 0), rwC r_2 cI 8 (fun _ => 0), rwC r_3 cI 8 (fun _ => 0)].flatten) rfl (fun H locs hP hD hS => ?_)
  refine lv_aload_n hx hb dX4_init_36 rfl (lv_at hl 0 rfl) ?_
  refine lv_bipush (v := 8) hx hb dX4_init_37 (by decide) ?_
  refine cn_newi X hP hD hS hA 8 (by decide) (by decide) (by decide) (Nat.le_of_ble_eq_true rfl) (Nat.le_of_ble_eq_true rfl) dX4_init_39 (fun r_4 H hP hD hS => ?_)
  have hP : va_P G classes [[(a, .inr (2, [.ref r_0, .ref r_1, .ref r_2, .ref r_3, .null, .null, .null, .null, .null, .null, .int 0, .int 0, .int 0, .null, .null]))], rwC r_0 cI 8 (fun _ => 0), rwC r_1 cI 8 (fun _ => 0), rwC r_2 cI 8 (fun _ => 0), rwC r_3 cI 8 (fun _ => 0), rwC r_4 cI 8 (fun _ => 0)].flatten H := hP
  have hD : va_D A [[(a, .inr (2, [.ref r_0, .ref r_1, .ref r_2, .ref r_3, .null, .null, .null, .null, .null, .null, .int 0, .int 0, .int 0, .null, .null]))], rwC r_0 cI 8 (fun _ => 0), rwC r_1 cI 8 (fun _ => 0), rwC r_2 cI 8 (fun _ => 0), rwC r_3 cI 8 (fun _ => 0), rwC r_4 cI 8 (fun _ => 0)].flatten := hD
  refine nv_putF (D := G) (ci := 2) (ty := (.array .int)) (v := .ref r_4) (C := RX4) (T := TX4) (N := 15) hx hb hw in_X4 tyX4 tyX4_ok nmX4 hown hK hP hD hS 0 rfl rfl 4 (by decide) (hw _ aw_107) (fun _ h9 => h9) rfl (by rw [hin]; rfl) rfl (by decide +kernel) rfl rfl (Nat.le_of_ble_eq_true rfl) dX4_init_41 (ws' := [[(a, .inr (2, [.ref r_0, .ref r_1, .ref r_2, .ref r_3, .ref r_4, .null, .null, .null, .null, .null, .int 0, .int 0, .int 0, .null, .null]))], rwC r_0 cI 8 (fun _ => 0), rwC r_1 cI 8 (fun _ => 0), rwC r_2 cI 8 (fun _ => 0), rwC r_3 cI 8 (fun _ => 0), rwC r_4 cI 8 (fun _ => 0)].flatten) rfl (fun H locs hP hD hS => ?_)
  refine lv_aload_n hx hb dX4_init_44 rfl (lv_at hl 0 rfl) ?_
  refine lv_bipush (v := 8) hx hb dX4_init_45 (by decide) ?_
  refine cn_newi X hP hD hS hA 8 (by decide) (by decide) (by decide) (Nat.le_of_ble_eq_true rfl) (Nat.le_of_ble_eq_true rfl) dX4_init_47 (fun r_5 H hP hD hS => ?_)
  have hP : va_P G classes [[(a, .inr (2, [.ref r_0, .ref r_1, .ref r_2, .ref r_3, .ref r_4, .null, .null, .null, .null, .null, .int 0, .int 0, .int 0, .null, .null]))], rwC r_0 cI 8 (fun _ => 0), rwC r_1 cI 8 (fun _ => 0), rwC r_2 cI 8 (fun _ => 0), rwC r_3 cI 8 (fun _ => 0), rwC r_4 cI 8 (fun _ => 0), rwC r_5 cI 8 (fun _ => 0)].flatten H := hP
  have hD : va_D A [[(a, .inr (2, [.ref r_0, .ref r_1, .ref r_2, .ref r_3, .ref r_4, .null, .null, .null, .null, .null, .int 0, .int 0, .int 0, .null, .null]))], rwC r_0 cI 8 (fun _ => 0), rwC r_1 cI 8 (fun _ => 0), rwC r_2 cI 8 (fun _ => 0), rwC r_3 cI 8 (fun _ => 0), rwC r_4 cI 8 (fun _ => 0), rwC r_5 cI 8 (fun _ => 0)].flatten := hD
  refine nv_putF (D := G) (ci := 2) (ty := (.array .int)) (v := .ref r_5) (C := RX4) (T := TX4) (N := 15) hx hb hw in_X4 tyX4 tyX4_ok nmX4 hown hK hP hD hS 0 rfl rfl 5 (by decide) (hw _ aw_109) (fun _ h9 => h9) rfl (by rw [hin]; rfl) rfl (by decide +kernel) rfl rfl (Nat.le_of_ble_eq_true rfl) dX4_init_49 (ws' := [[(a, .inr (2, [.ref r_0, .ref r_1, .ref r_2, .ref r_3, .ref r_4, .ref r_5, .null, .null, .null, .null, .int 0, .int 0, .int 0, .null, .null]))], rwC r_0 cI 8 (fun _ => 0), rwC r_1 cI 8 (fun _ => 0), rwC r_2 cI 8 (fun _ => 0), rwC r_3 cI 8 (fun _ => 0), rwC r_4 cI 8 (fun _ => 0), rwC r_5 cI 8 (fun _ => 0)].flatten) rfl (fun H locs hP hD hS => ?_)
  refine lv_aload_n hx hb dX4_init_52 rfl (lv_at hl 0 rfl) ?_
  refine lv_bipush (v := 8) hx hb dX4_init_53 (by decide) ?_
  refine cn_newi X hP hD hS hA 8 (by decide) (by decide) (by decide) (Nat.le_of_ble_eq_true rfl) (Nat.le_of_ble_eq_true rfl) dX4_init_55 (fun r_6 H hP hD hS => ?_)
  have hP : va_P G classes [[(a, .inr (2, [.ref r_0, .ref r_1, .ref r_2, .ref r_3, .ref r_4, .ref r_5, .null, .null, .null, .null, .int 0, .int 0, .int 0, .null, .null]))], rwC r_0 cI 8 (fun _ => 0), rwC r_1 cI 8 (fun _ => 0), rwC r_2 cI 8 (fun _ => 0), rwC r_3 cI 8 (fun _ => 0), rwC r_4 cI 8 (fun _ => 0), rwC r_5 cI 8 (fun _ => 0), rwC r_6 cI 8 (fun _ => 0)].flatten H := hP
  have hD : va_D A [[(a, .inr (2, [.ref r_0, .ref r_1, .ref r_2, .ref r_3, .ref r_4, .ref r_5, .null, .null, .null, .null, .int 0, .int 0, .int 0, .null, .null]))], rwC r_0 cI 8 (fun _ => 0), rwC r_1 cI 8 (fun _ => 0), rwC r_2 cI 8 (fun _ => 0), rwC r_3 cI 8 (fun _ => 0), rwC r_4 cI 8 (fun _ => 0), rwC r_5 cI 8 (fun _ => 0), rwC r_6 cI 8 (fun _ => 0)].flatten := hD
  refine nv_putF (D := G) (ci := 2) (ty := (.array .int)) (v := .ref r_6) (C := RX4) (T := TX4) (N := 15) hx hb hw in_X4 tyX4 tyX4_ok nmX4 hown hK hP hD hS 0 rfl rfl 6 (by decide) (hw _ aw_110) (fun _ h9 => h9) rfl (by rw [hin]; rfl) rfl (by decide +kernel) rfl rfl (Nat.le_of_ble_eq_true rfl) dX4_init_57 (ws' := [[(a, .inr (2, [.ref r_0, .ref r_1, .ref r_2, .ref r_3, .ref r_4, .ref r_5, .ref r_6, .null, .null, .null, .int 0, .int 0, .int 0, .null, .null]))], rwC r_0 cI 8 (fun _ => 0), rwC r_1 cI 8 (fun _ => 0), rwC r_2 cI 8 (fun _ => 0), rwC r_3 cI 8 (fun _ => 0), rwC r_4 cI 8 (fun _ => 0), rwC r_5 cI 8 (fun _ => 0), rwC r_6 cI 8 (fun _ => 0)].flatten) rfl (fun H locs hP hD hS => ?_)
  refine lv_aload_n hx hb dX4_init_60 rfl (lv_at hl 0 rfl) ?_
  refine lv_bipush (v := 64) hx hb dX4_init_61 (by decide) ?_
  refine cn_newi X hP hD hS hA 64 (by decide) (by decide) (by decide) (Nat.le_of_ble_eq_true rfl) (Nat.le_of_ble_eq_true rfl) dX4_init_63 (fun r_7 H hP hD hS => ?_)
  have hP : va_P G classes [[(a, .inr (2, [.ref r_0, .ref r_1, .ref r_2, .ref r_3, .ref r_4, .ref r_5, .ref r_6, .null, .null, .null, .int 0, .int 0, .int 0, .null, .null]))], rwC r_0 cI 8 (fun _ => 0), rwC r_1 cI 8 (fun _ => 0), rwC r_2 cI 8 (fun _ => 0), rwC r_3 cI 8 (fun _ => 0), rwC r_4 cI 8 (fun _ => 0), rwC r_5 cI 8 (fun _ => 0), rwC r_6 cI 8 (fun _ => 0), rwC r_7 cI 64 (fun _ => 0)].flatten H := hP
  have hD : va_D A [[(a, .inr (2, [.ref r_0, .ref r_1, .ref r_2, .ref r_3, .ref r_4, .ref r_5, .ref r_6, .null, .null, .null, .int 0, .int 0, .int 0, .null, .null]))], rwC r_0 cI 8 (fun _ => 0), rwC r_1 cI 8 (fun _ => 0), rwC r_2 cI 8 (fun _ => 0), rwC r_3 cI 8 (fun _ => 0), rwC r_4 cI 8 (fun _ => 0), rwC r_5 cI 8 (fun _ => 0), rwC r_6 cI 8 (fun _ => 0), rwC r_7 cI 64 (fun _ => 0)].flatten := hD
  refine nv_putF (D := G) (ci := 2) (ty := (.array .int)) (v := .ref r_7) (C := RX4) (T := TX4) (N := 15) hx hb hw in_X4 tyX4 tyX4_ok nmX4 hown hK hP hD hS 0 rfl rfl 7 (by decide) (hw _ aw_111) (fun _ h9 => h9) rfl (by rw [hin]; rfl) rfl (by decide +kernel) rfl rfl (Nat.le_of_ble_eq_true rfl) dX4_init_65 (ws' := [[(a, .inr (2, [.ref r_0, .ref r_1, .ref r_2, .ref r_3, .ref r_4, .ref r_5, .ref r_6, .ref r_7, .null, .null, .int 0, .int 0, .int 0, .null, .null]))], rwC r_0 cI 8 (fun _ => 0), rwC r_1 cI 8 (fun _ => 0), rwC r_2 cI 8 (fun _ => 0), rwC r_3 cI 8 (fun _ => 0), rwC r_4 cI 8 (fun _ => 0), rwC r_5 cI 8 (fun _ => 0), rwC r_6 cI 8 (fun _ => 0), rwC r_7 cI 64 (fun _ => 0)].flatten) rfl (fun H locs hP hD hS => ?_)
  refine lv_aload_n hx hb dX4_init_68 rfl (lv_at hl 0 rfl) ?_
  refine lv_iconst (v := 3) hx hb dX4_init_69 (by decide) ?_
  refine cn_newi X hP hD hS hA 3 (by decide) (by decide) (by decide) (Nat.le_of_ble_eq_true rfl) (Nat.le_of_ble_eq_true rfl) dX4_init_70 (fun r_8 H hP hD hS => ?_)
  have hP : va_P G classes [[(a, .inr (2, [.ref r_0, .ref r_1, .ref r_2, .ref r_3, .ref r_4, .ref r_5, .ref r_6, .ref r_7, .null, .null, .int 0, .int 0, .int 0, .null, .null]))], rwC r_0 cI 8 (fun _ => 0), rwC r_1 cI 8 (fun _ => 0), rwC r_2 cI 8 (fun _ => 0), rwC r_3 cI 8 (fun _ => 0), rwC r_4 cI 8 (fun _ => 0), rwC r_5 cI 8 (fun _ => 0), rwC r_6 cI 8 (fun _ => 0), rwC r_7 cI 64 (fun _ => 0), rwC r_8 cI 3 (fun _ => 0)].flatten H := hP
  have hD : va_D A [[(a, .inr (2, [.ref r_0, .ref r_1, .ref r_2, .ref r_3, .ref r_4, .ref r_5, .ref r_6, .ref r_7, .null, .null, .int 0, .int 0, .int 0, .null, .null]))], rwC r_0 cI 8 (fun _ => 0), rwC r_1 cI 8 (fun _ => 0), rwC r_2 cI 8 (fun _ => 0), rwC r_3 cI 8 (fun _ => 0), rwC r_4 cI 8 (fun _ => 0), rwC r_5 cI 8 (fun _ => 0), rwC r_6 cI 8 (fun _ => 0), rwC r_7 cI 64 (fun _ => 0), rwC r_8 cI 3 (fun _ => 0)].flatten := hD
  refine nv_putF (D := G) (ci := 2) (ty := (.array .int)) (v := .ref r_8) (C := RX4) (T := TX4) (N := 15) hx hb hw in_X4 tyX4 tyX4_ok nmX4 hown hK hP hD hS 0 rfl rfl 8 (by decide) (hw _ aw_112) (fun _ h9 => h9) rfl (by rw [hin]; rfl) rfl (by decide +kernel) rfl rfl (Nat.le_of_ble_eq_true rfl) dX4_init_72 (ws' := [[(a, .inr (2, [.ref r_0, .ref r_1, .ref r_2, .ref r_3, .ref r_4, .ref r_5, .ref r_6, .ref r_7, .ref r_8, .null, .int 0, .int 0, .int 0, .null, .null]))], rwC r_0 cI 8 (fun _ => 0), rwC r_1 cI 8 (fun _ => 0), rwC r_2 cI 8 (fun _ => 0), rwC r_3 cI 8 (fun _ => 0), rwC r_4 cI 8 (fun _ => 0), rwC r_5 cI 8 (fun _ => 0), rwC r_6 cI 8 (fun _ => 0), rwC r_7 cI 64 (fun _ => 0), rwC r_8 cI 3 (fun _ => 0)].flatten) rfl (fun H locs hP hD hS => ?_)
  refine lv_aload_n hx hb dX4_init_75 rfl (lv_at hl 0 rfl) ?_
  refine lv_iconst (v := 3) hx hb dX4_init_76 (by decide) ?_
  refine cn_newi X hP hD hS hA 3 (by decide) (by decide) (by decide) (Nat.le_of_ble_eq_true rfl) (Nat.le_of_ble_eq_true rfl) dX4_init_77 (fun r_9 H hP hD hS => ?_)
  have hP : va_P G classes [[(a, .inr (2, [.ref r_0, .ref r_1, .ref r_2, .ref r_3, .ref r_4, .ref r_5, .ref r_6, .ref r_7, .ref r_8, .null, .int 0, .int 0, .int 0, .null, .null]))], rwC r_0 cI 8 (fun _ => 0), rwC r_1 cI 8 (fun _ => 0), rwC r_2 cI 8 (fun _ => 0), rwC r_3 cI 8 (fun _ => 0), rwC r_4 cI 8 (fun _ => 0), rwC r_5 cI 8 (fun _ => 0), rwC r_6 cI 8 (fun _ => 0), rwC r_7 cI 64 (fun _ => 0), rwC r_8 cI 3 (fun _ => 0), rwC r_9 cI 3 (fun _ => 0)].flatten H := hP
  have hD : va_D A [[(a, .inr (2, [.ref r_0, .ref r_1, .ref r_2, .ref r_3, .ref r_4, .ref r_5, .ref r_6, .ref r_7, .ref r_8, .null, .int 0, .int 0, .int 0, .null, .null]))], rwC r_0 cI 8 (fun _ => 0), rwC r_1 cI 8 (fun _ => 0), rwC r_2 cI 8 (fun _ => 0), rwC r_3 cI 8 (fun _ => 0), rwC r_4 cI 8 (fun _ => 0), rwC r_5 cI 8 (fun _ => 0), rwC r_6 cI 8 (fun _ => 0), rwC r_7 cI 64 (fun _ => 0), rwC r_8 cI 3 (fun _ => 0), rwC r_9 cI 3 (fun _ => 0)].flatten := hD
  refine nv_putF (D := G) (ci := 2) (ty := (.array .int)) (v := .ref r_9) (C := RX4) (T := TX4) (N := 15) hx hb hw in_X4 tyX4 tyX4_ok nmX4 hown hK hP hD hS 0 rfl rfl 9 (by decide) (hw _ aw_114) (fun _ h9 => h9) rfl (by rw [hin]; rfl) rfl (by decide +kernel) rfl rfl (Nat.le_of_ble_eq_true rfl) dX4_init_79 (ws' := [[(a, .inr (2, [.ref r_0, .ref r_1, .ref r_2, .ref r_3, .ref r_4, .ref r_5, .ref r_6, .ref r_7, .ref r_8, .ref r_9, .int 0, .int 0, .int 0, .null, .null]))], rwC r_0 cI 8 (fun _ => 0), rwC r_1 cI 8 (fun _ => 0), rwC r_2 cI 8 (fun _ => 0), rwC r_3 cI 8 (fun _ => 0), rwC r_4 cI 8 (fun _ => 0), rwC r_5 cI 8 (fun _ => 0), rwC r_6 cI 8 (fun _ => 0), rwC r_7 cI 64 (fun _ => 0), rwC r_8 cI 3 (fun _ => 0), rwC r_9 cI 3 (fun _ => 0)].flatten) rfl (fun H locs hP hD hS => ?_)
  refine lv_aload_n hx hb dX4_init_82 rfl (lv_at hl 0 rfl) ?_
  refine lv_bipush (v := 8) hx hb dX4_init_83 (by decide) ?_
  refine cn_newi X hP hD hS hA 8 (by decide) (by decide) (by decide) (Nat.le_of_ble_eq_true rfl) (Nat.le_of_ble_eq_true rfl) dX4_init_85 (fun r_10 H hP hD hS => ?_)
  have hP : va_P G classes [[(a, .inr (2, [.ref r_0, .ref r_1, .ref r_2, .ref r_3, .ref r_4, .ref r_5, .ref r_6, .ref r_7, .ref r_8, .ref r_9, .int 0, .int 0, .int 0, .null, .null]))], rwC r_0 cI 8 (fun _ => 0), rwC r_1 cI 8 (fun _ => 0), rwC r_2 cI 8 (fun _ => 0), rwC r_3 cI 8 (fun _ => 0), rwC r_4 cI 8 (fun _ => 0), rwC r_5 cI 8 (fun _ => 0), rwC r_6 cI 8 (fun _ => 0), rwC r_7 cI 64 (fun _ => 0), rwC r_8 cI 3 (fun _ => 0), rwC r_9 cI 3 (fun _ => 0), rwC r_10 cI 8 (fun _ => 0)].flatten H := hP
  have hD : va_D A [[(a, .inr (2, [.ref r_0, .ref r_1, .ref r_2, .ref r_3, .ref r_4, .ref r_5, .ref r_6, .ref r_7, .ref r_8, .ref r_9, .int 0, .int 0, .int 0, .null, .null]))], rwC r_0 cI 8 (fun _ => 0), rwC r_1 cI 8 (fun _ => 0), rwC r_2 cI 8 (fun _ => 0), rwC r_3 cI 8 (fun _ => 0), rwC r_4 cI 8 (fun _ => 0), rwC r_5 cI 8 (fun _ => 0), rwC r_6 cI 8 (fun _ => 0), rwC r_7 cI 64 (fun _ => 0), rwC r_8 cI 3 (fun _ => 0), rwC r_9 cI 3 (fun _ => 0), rwC r_10 cI 8 (fun _ => 0)].flatten := hD
  refine nv_putF (D := G) (ci := 2) (ty := (.array .int)) (v := .ref r_10) (C := RX4) (T := TX4) (N := 15) hx hb hw in_X4 tyX4 tyX4_ok nmX4 hown hK hP hD hS 0 rfl rfl 13 (by decide) (hw _ aw_120) (fun _ h9 => h9) rfl (by rw [hin]; rfl) rfl (by decide +kernel) rfl rfl (Nat.le_of_ble_eq_true rfl) dX4_init_87 (ws' := [[(a, .inr (2, [.ref r_0, .ref r_1, .ref r_2, .ref r_3, .ref r_4, .ref r_5, .ref r_6, .ref r_7, .ref r_8, .ref r_9, .int 0, .int 0, .int 0, .ref r_10, .null]))], rwC r_0 cI 8 (fun _ => 0), rwC r_1 cI 8 (fun _ => 0), rwC r_2 cI 8 (fun _ => 0), rwC r_3 cI 8 (fun _ => 0), rwC r_4 cI 8 (fun _ => 0), rwC r_5 cI 8 (fun _ => 0), rwC r_6 cI 8 (fun _ => 0), rwC r_7 cI 64 (fun _ => 0), rwC r_8 cI 3 (fun _ => 0), rwC r_9 cI 3 (fun _ => 0), rwC r_10 cI 8 (fun _ => 0)].flatten) rfl (fun H locs hP hD hS => ?_)
  refine lv_aload_n hx hb dX4_init_90 rfl (lv_at hl 0 rfl) ?_
  refine lv_bipush (v := 8) hx hb dX4_init_91 (by decide) ?_
  refine cn_newi X hP hD hS hA 8 (by decide) (by decide) (by decide) (Nat.le_of_ble_eq_true rfl) (Nat.le_of_ble_eq_true rfl) dX4_init_93 (fun r_11 H hP hD hS => ?_)
  have hP : va_P G classes [[(a, .inr (2, [.ref r_0, .ref r_1, .ref r_2, .ref r_3, .ref r_4, .ref r_5, .ref r_6, .ref r_7, .ref r_8, .ref r_9, .int 0, .int 0, .int 0, .ref r_10, .null]))], rwC r_0 cI 8 (fun _ => 0), rwC r_1 cI 8 (fun _ => 0), rwC r_2 cI 8 (fun _ => 0), rwC r_3 cI 8 (fun _ => 0), rwC r_4 cI 8 (fun _ => 0), rwC r_5 cI 8 (fun _ => 0), rwC r_6 cI 8 (fun _ => 0), rwC r_7 cI 64 (fun _ => 0), rwC r_8 cI 3 (fun _ => 0), rwC r_9 cI 3 (fun _ => 0), rwC r_10 cI 8 (fun _ => 0), rwC r_11 cI 8 (fun _ => 0)].flatten H := hP
  have hD : va_D A [[(a, .inr (2, [.ref r_0, .ref r_1, .ref r_2, .ref r_3, .ref r_4, .ref r_5, .ref r_6, .ref r_7, .ref r_8, .ref r_9, .int 0, .int 0, .int 0, .ref r_10, .null]))], rwC r_0 cI 8 (fun _ => 0), rwC r_1 cI 8 (fun _ => 0), rwC r_2 cI 8 (fun _ => 0), rwC r_3 cI 8 (fun _ => 0), rwC r_4 cI 8 (fun _ => 0), rwC r_5 cI 8 (fun _ => 0), rwC r_6 cI 8 (fun _ => 0), rwC r_7 cI 64 (fun _ => 0), rwC r_8 cI 3 (fun _ => 0), rwC r_9 cI 3 (fun _ => 0), rwC r_10 cI 8 (fun _ => 0), rwC r_11 cI 8 (fun _ => 0)].flatten := hD
  refine nv_putF (D := G) (ci := 2) (ty := (.array .int)) (v := .ref r_11) (C := RX4) (T := TX4) (N := 15) hx hb hw in_X4 tyX4 tyX4_ok nmX4 hown hK hP hD hS 0 rfl rfl 14 (by decide) (hw _ aw_121) (fun _ h9 => h9) rfl (by rw [hin]; rfl) rfl (by decide +kernel) rfl rfl (Nat.le_of_ble_eq_true rfl) dX4_init_95 (ws' := [[(a, .inr (2, [.ref r_0, .ref r_1, .ref r_2, .ref r_3, .ref r_4, .ref r_5, .ref r_6, .ref r_7, .ref r_8, .ref r_9, .int 0, .int 0, .int 0, .ref r_10, .ref r_11]))], rwC r_0 cI 8 (fun _ => 0), rwC r_1 cI 8 (fun _ => 0), rwC r_2 cI 8 (fun _ => 0), rwC r_3 cI 8 (fun _ => 0), rwC r_4 cI 8 (fun _ => 0), rwC r_5 cI 8 (fun _ => 0), rwC r_6 cI 8 (fun _ => 0), rwC r_7 cI 64 (fun _ => 0), rwC r_8 cI 3 (fun _ => 0), rwC r_9 cI 3 (fun _ => 0), rwC r_10 cI 8 (fun _ => 0), rwC r_11 cI 8 (fun _ => 0)].flatten) rfl (fun H locs hP hD hS => ?_)
  refine lv_iconst (v := 0) hx hb dX4_init_98 (by decide) ?_
  refine lv_istore_n (lv' := [(1, .int (0 : Int32)), (0, .ref a)]) hx hb dX4_init_99 rfl hl (by decide) rfl (fun ls hl => ?_)
  refine lv_iload_n hx hb dX4_init_100 rfl (lv_at hl 0 rfl) ?_
  refine lv_bipush (v := 8) hx hb dX4_init_101 (by decide) ?_
  refine nv_ge hx hb 0 8 149 (by decide) (by decide) dX4_init_103 (by decide) (fun c => absurd c (by decide)) (fun _ => ?_)
  refine lv_aload_n hx hb dX4_init_106 rfl (lv_at hl 1 rfl) ?_
  refine va_get (D := G) (ci := 2) (C := RX4) (T := TX4) (N := 15) hx hb hw in_X4 hown hK hP 0 rfl rfl 0 (by decide) (hw _ aw_100) (fun _ h9 => h9) rfl dX4_init_107 ?_
  refine lv_iload_n hx hb dX4_init_110 rfl (lv_at hl 0 rfl) ?_
  refine lv_iload_n hx hb dX4_init_111 rfl (lv_at hl 0 rfl) ?_
  refine lv_iconst (v := 3) hx hb dX4_init_112 (by decide) ?_
  refine lv_irem hx hb dX4_init_113 (by decide) ?_
  refine W.eq (g2 := F0 m 114 ls [.int (0 : Int32), .int (0 : Int32), .ref r_0]) rfl ?_
  refine nv_iast hx hb hK hP hD hS 1 0 rfl rfl 0 (by decide) (by decide) dX4_init_114 (ws' := [[(a, .inr (2, [.ref r_0, .ref r_1, .ref r_2, .ref r_3, .ref r_4, .ref r_5, .ref r_6, .ref r_7, .ref r_8, .ref r_9, .int 0, .int 0, .int 0, .ref r_10, .ref r_11]))], rwC r_0 cI 8 (upd (fun _ => 0) 0 (0 : Int32)), rwC r_1 cI 8 (fun _ => 0), rwC r_2 cI 8 (fun _ => 0), rwC r_3 cI 8 (fun _ => 0), rwC r_4 cI 8 (fun _ => 0), rwC r_5 cI 8 (fun _ => 0), rwC r_6 cI 8 (fun _ => 0), rwC r_7 cI 64 (fun _ => 0), rwC r_8 cI 3 (fun _ => 0), rwC r_9 cI 3 (fun _ => 0), rwC r_10 cI 8 (fun _ => 0), rwC r_11 cI 8 (fun _ => 0)].flatten) rfl (fun H locs hP hD hS => ?_)
  refine lv_aload_n hx hb dX4_init_115 rfl (lv_at hl 1 rfl) ?_
  refine va_get (D := G) (ci := 2) (C := RX4) (T := TX4) (N := 15) hx hb hw in_X4 hown hK hP 0 rfl rfl 1 (by decide) (hw _ aw_101) (fun _ h9 => h9) rfl dX4_init_116 ?_
  refine lv_iload_n hx hb dX4_init_119 rfl (lv_at hl 0 rfl) ?_
  refine lv_bipush (v := 30) hx hb dX4_init_120 (by decide) ?_
  refine lv_iload_n hx hb dX4_init_122 rfl (lv_at hl 0 rfl) ?_
  refine lv_iadd hx hb dX4_init_123 ?_
  refine W.eq (g2 := F0 m 124 ls [.int (30 : Int32), .int (0 : Int32), .ref r_1]) rfl ?_
  refine nv_iast hx hb hK hP hD hS 2 0 rfl rfl 0 (by decide) (by decide) dX4_init_124 (ws' := [[(a, .inr (2, [.ref r_0, .ref r_1, .ref r_2, .ref r_3, .ref r_4, .ref r_5, .ref r_6, .ref r_7, .ref r_8, .ref r_9, .int 0, .int 0, .int 0, .ref r_10, .ref r_11]))], rwC r_0 cI 8 (upd (fun _ => 0) 0 (0 : Int32)), rwC r_1 cI 8 (upd (fun _ => 0) 0 (30 : Int32)), rwC r_2 cI 8 (fun _ => 0), rwC r_3 cI 8 (fun _ => 0), rwC r_4 cI 8 (fun _ => 0), rwC r_5 cI 8 (fun _ => 0), rwC r_6 cI 8 (fun _ => 0), rwC r_7 cI 64 (fun _ => 0), rwC r_8 cI 3 (fun _ => 0), rwC r_9 cI 3 (fun _ => 0), rwC r_10 cI 8 (fun _ => 0), rwC r_11 cI 8 (fun _ => 0)].flatten) rfl (fun H locs hP hD hS => ?_)
  refine lv_aload_n hx hb dX4_init_125 rfl (lv_at hl 1 rfl) ?_
  refine va_get (D := G) (ci := 2) (C := RX4) (T := TX4) (N := 15) hx hb hw in_X4 hown hK hP 0 rfl rfl 2 (by decide) (hw _ aw_103) (fun _ h9 => h9) rfl dX4_init_126 ?_
  refine lv_iload_n hx hb dX4_init_129 rfl (lv_at hl 0 rfl) ?_
  refine lv_bipush (v := 100) hx hb dX4_init_130 (by decide) ?_
  refine lv_iload_n hx hb dX4_init_132 rfl (lv_at hl 0 rfl) ?_
  refine lv_imul hx hb dX4_init_133 ?_
  refine W.eq (g2 := F0 m 134 ls [.int (0 : Int32), .int (0 : Int32), .ref r_2]) rfl ?_
  refine nv_iast hx hb hK hP hD hS 3 0 rfl rfl 0 (by decide) (by decide) dX4_init_134 (ws' := [[(a, .inr (2, [.ref r_0, .ref r_1, .ref r_2, .ref r_3, .ref r_4, .ref r_5, .ref r_6, .ref r_7, .ref r_8, .ref r_9, .int 0, .int 0, .int 0, .ref r_10, .ref r_11]))], rwC r_0 cI 8 (upd (fun _ => 0) 0 (0 : Int32)), rwC r_1 cI 8 (upd (fun _ => 0) 0 (30 : Int32)), rwC r_2 cI 8 (upd (fun _ => 0) 0 (0 : Int32)), rwC r_3 cI 8 (fun _ => 0), rwC r_4 cI 8 (fun _ => 0), rwC r_5 cI 8 (fun _ => 0), rwC r_6 cI 8 (fun _ => 0), rwC r_7 cI 64 (fun _ => 0), rwC r_8 cI 3 (fun _ => 0), rwC r_9 cI 3 (fun _ => 0), rwC r_10 cI 8 (fun _ => 0), rwC r_11 cI 8 (fun _ => 0)].flatten) rfl (fun H locs hP hD hS => ?_)
  refine lv_aload_n hx hb dX4_init_135 rfl (lv_at hl 1 rfl) ?_
  refine va_get (D := G) (ci := 2) (C := RX4) (T := TX4) (N := 15) hx hb hw in_X4 hown hK hP 0 rfl rfl 3 (by decide) (hw _ aw_105) (fun _ h9 => h9) rfl dX4_init_136 ?_
  refine lv_iload_n hx hb dX4_init_139 rfl (lv_at hl 0 rfl) ?_
  refine lv_bipush (v := 50) hx hb dX4_init_140 (by decide) ?_
  refine nv_iast hx hb hK hP hD hS 4 0 rfl rfl 0 (by decide) (by decide) dX4_init_142 (ws' := [[(a, .inr (2, [.ref r_0, .ref r_1, .ref r_2, .ref r_3, .ref r_4, .ref r_5, .ref r_6, .ref r_7, .ref r_8, .ref r_9, .int 0, .int 0, .int 0, .ref r_10, .ref r_11]))], rwC r_0 cI 8 (upd (fun _ => 0) 0 (0 : Int32)), rwC r_1 cI 8 (upd (fun _ => 0) 0 (30 : Int32)), rwC r_2 cI 8 (upd (fun _ => 0) 0 (0 : Int32)), rwC r_3 cI 8 (upd (fun _ => 0) 0 (50 : Int32)), rwC r_4 cI 8 (fun _ => 0), rwC r_5 cI 8 (fun _ => 0), rwC r_6 cI 8 (fun _ => 0), rwC r_7 cI 64 (fun _ => 0), rwC r_8 cI 3 (fun _ => 0), rwC r_9 cI 3 (fun _ => 0), rwC r_10 cI 8 (fun _ => 0), rwC r_11 cI 8 (fun _ => 0)].flatten) rfl (fun H locs hP hD hS => ?_)
  refine lv_iinc (v := 1) (k := 0) (lv' := [(1, .int (1 : Int32)), (0, .ref a)]) hx hb dX4_init_143 hl rfl rfl (by decide) rfl (fun ls hl => ?_)
  refine lv_goto (tgt := 100) hx hb dX4_init_146 (by decide) ?_
  refine lv_iload_n hx hb dX4_init_100 rfl (lv_at hl 0 rfl) ?_
  refine lv_bipush (v := 8) hx hb dX4_init_101 (by decide) ?_
  refine nv_ge hx hb 1 8 149 (by decide) (by decide) dX4_init_103 (by decide) (fun c => absurd c (by decide)) (fun _ => ?_)
  refine lv_aload_n hx hb dX4_init_106 rfl (lv_at hl 1 rfl) ?_
  refine va_get (D := G) (ci := 2) (C := RX4) (T := TX4) (N := 15) hx hb hw in_X4 hown hK hP 0 rfl rfl 0 (by decide) (hw _ aw_100) (fun _ h9 => h9) rfl dX4_init_107 ?_
  refine lv_iload_n hx hb dX4_init_110 rfl (lv_at hl 0 rfl) ?_
  refine lv_iload_n hx hb dX4_init_111 rfl (lv_at hl 0 rfl) ?_
  refine lv_iconst (v := 3) hx hb dX4_init_112 (by decide) ?_
  refine lv_irem hx hb dX4_init_113 (by decide) ?_
  refine W.eq (g2 := F0 m 114 ls [.int (1 : Int32), .int (1 : Int32), .ref r_0]) rfl ?_
  refine nv_iast hx hb hK hP hD hS 1 0 rfl rfl 1 (by decide) (by decide) dX4_init_114 (ws' := [[(a, .inr (2, [.ref r_0, .ref r_1, .ref r_2, .ref r_3, .ref r_4, .ref r_5, .ref r_6, .ref r_7, .ref r_8, .ref r_9, .int 0, .int 0, .int 0, .ref r_10, .ref r_11]))], rwC r_0 cI 8 (upd (upd (fun _ => 0) 0 (0 : Int32)) 1 (1 : Int32)), rwC r_1 cI 8 (upd (fun _ => 0) 0 (30 : Int32)), rwC r_2 cI 8 (upd (fun _ => 0) 0 (0 : Int32)), rwC r_3 cI 8 (upd (fun _ => 0) 0 (50 : Int32)), rwC r_4 cI 8 (fun _ => 0), rwC r_5 cI 8 (fun _ => 0), rwC r_6 cI 8 (fun _ => 0), rwC r_7 cI 64 (fun _ => 0), rwC r_8 cI 3 (fun _ => 0), rwC r_9 cI 3 (fun _ => 0), rwC r_10 cI 8 (fun _ => 0), rwC r_11 cI 8 (fun _ => 0)].flatten) rfl (fun H locs hP hD hS => ?_)
  refine lv_aload_n hx hb dX4_init_115 rfl (lv_at hl 1 rfl) ?_
  refine va_get (D := G) (ci := 2) (C := RX4) (T := TX4) (N := 15) hx hb hw in_X4 hown hK hP 0 rfl rfl 1 (by decide) (hw _ aw_101) (fun _ h9 => h9) rfl dX4_init_116 ?_
  refine lv_iload_n hx hb dX4_init_119 rfl (lv_at hl 0 rfl) ?_
  refine lv_bipush (v := 30) hx hb dX4_init_120 (by decide) ?_
  refine lv_iload_n hx hb dX4_init_122 rfl (lv_at hl 0 rfl) ?_
  refine lv_iadd hx hb dX4_init_123 ?_
  refine W.eq (g2 := F0 m 124 ls [.int (31 : Int32), .int (1 : Int32), .ref r_1]) rfl ?_
  refine nv_iast hx hb hK hP hD hS 2 0 rfl rfl 1 (by decide) (by decide) dX4_init_124 (ws' := [[(a, .inr (2, [.ref r_0, .ref r_1, .ref r_2, .ref r_3, .ref r_4, .ref r_5, .ref r_6, .ref r_7, .ref r_8, .ref r_9, .int 0, .int 0, .int 0, .ref r_10, .ref r_11]))], rwC r_0 cI 8 (upd (upd (fun _ => 0) 0 (0 : Int32)) 1 (1 : Int32)), rwC r_1 cI 8 (upd (upd (fun _ => 0) 0 (30 : Int32)) 1 (31 : Int32)), rwC r_2 cI 8 (upd (fun _ => 0) 0 (0 : Int32)), rwC r_3 cI 8 (upd (fun _ => 0) 0 (50 : Int32)), rwC r_4 cI 8 (fun _ => 0), rwC r_5 cI 8 (fun _ => 0), rwC r_6 cI 8 (fun _ => 0), rwC r_7 cI 64 (fun _ => 0), rwC r_8 cI 3 (fun _ => 0), rwC r_9 cI 3 (fun _ => 0), rwC r_10 cI 8 (fun _ => 0), rwC r_11 cI 8 (fun _ => 0)].flatten) rfl (fun H locs hP hD hS => ?_)
  refine lv_aload_n hx hb dX4_init_125 rfl (lv_at hl 1 rfl) ?_
  refine va_get (D := G) (ci := 2) (C := RX4) (T := TX4) (N := 15) hx hb hw in_X4 hown hK hP 0 rfl rfl 2 (by decide) (hw _ aw_103) (fun _ h9 => h9) rfl dX4_init_126 ?_
  refine lv_iload_n hx hb dX4_init_129 rfl (lv_at hl 0 rfl) ?_
  refine lv_bipush (v := 100) hx hb dX4_init_130 (by decide) ?_
  refine lv_iload_n hx hb dX4_init_132 rfl (lv_at hl 0 rfl) ?_
  refine lv_imul hx hb dX4_init_133 ?_
  refine W.eq (g2 := F0 m 134 ls [.int (100 : Int32), .int (1 : Int32), .ref r_2]) rfl ?_
  refine nv_iast hx hb hK hP hD hS 3 0 rfl rfl 1 (by decide) (by decide) dX4_init_134 (ws' := [[(a, .inr (2, [.ref r_0, .ref r_1, .ref r_2, .ref r_3, .ref r_4, .ref r_5, .ref r_6, .ref r_7, .ref r_8, .ref r_9, .int 0, .int 0, .int 0, .ref r_10, .ref r_11]))], rwC r_0 cI 8 (upd (upd (fun _ => 0) 0 (0 : Int32)) 1 (1 : Int32)), rwC r_1 cI 8 (upd (upd (fun _ => 0) 0 (30 : Int32)) 1 (31 : Int32)), rwC r_2 cI 8 (upd (upd (fun _ => 0) 0 (0 : Int32)) 1 (100 : Int32)), rwC r_3 cI 8 (upd (fun _ => 0) 0 (50 : Int32)), rwC r_4 cI 8 (fun _ => 0), rwC r_5 cI 8 (fun _ => 0), rwC r_6 cI 8 (fun _ => 0), rwC r_7 cI 64 (fun _ => 0), rwC r_8 cI 3 (fun _ => 0), rwC r_9 cI 3 (fun _ => 0), rwC r_10 cI 8 (fun _ => 0), rwC r_11 cI 8 (fun _ => 0)].flatten) rfl (fun H locs hP hD hS => ?_)
  refine lv_aload_n hx hb dX4_init_135 rfl (lv_at hl 1 rfl) ?_
  refine va_get (D := G) (ci := 2) (C := RX4) (T := TX4) (N := 15) hx hb hw in_X4 hown hK hP 0 rfl rfl 3 (by decide) (hw _ aw_105) (fun _ h9 => h9) rfl dX4_init_136 ?_
  refine lv_iload_n hx hb dX4_init_139 rfl (lv_at hl 0 rfl) ?_
  refine lv_bipush (v := 50) hx hb dX4_init_140 (by decide) ?_
  refine nv_iast hx hb hK hP hD hS 4 0 rfl rfl 1 (by decide) (by decide) dX4_init_142 (ws' := [[(a, .inr (2, [.ref r_0, .ref r_1, .ref r_2, .ref r_3, .ref r_4, .ref r_5, .ref r_6, .ref r_7, .ref r_8, .ref r_9, .int 0, .int 0, .int 0, .ref r_10, .ref r_11]))], rwC r_0 cI 8 (upd (upd (fun _ => 0) 0 (0 : Int32)) 1 (1 : Int32)), rwC r_1 cI 8 (upd (upd (fun _ => 0) 0 (30 : Int32)) 1 (31 : Int32)), rwC r_2 cI 8 (upd (upd (fun _ => 0) 0 (0 : Int32)) 1 (100 : Int32)), rwC r_3 cI 8 (upd (upd (fun _ => 0) 0 (50 : Int32)) 1 (50 : Int32)), rwC r_4 cI 8 (fun _ => 0), rwC r_5 cI 8 (fun _ => 0), rwC r_6 cI 8 (fun _ => 0), rwC r_7 cI 64 (fun _ => 0), rwC r_8 cI 3 (fun _ => 0), rwC r_9 cI 3 (fun _ => 0), rwC r_10 cI 8 (fun _ => 0), rwC r_11 cI 8 (fun _ => 0)].flatten) rfl (fun H locs hP hD hS => ?_)
  refine lv_iinc (v := 2) (k := 0) (lv' := [(1, .int (2 : Int32)), (0, .ref a)]) hx hb dX4_init_143 hl rfl rfl (by decide) rfl (fun ls hl => ?_)
  refine lv_goto (tgt := 100) hx hb dX4_init_146 (by decide) ?_
  refine lv_iload_n hx hb dX4_init_100 rfl (lv_at hl 0 rfl) ?_
  refine lv_bipush (v := 8) hx hb dX4_init_101 (by decide) ?_
  refine nv_ge hx hb 2 8 149 (by decide) (by decide) dX4_init_103 (by decide) (fun c => absurd c (by decide)) (fun _ => ?_)
  refine lv_aload_n hx hb dX4_init_106 rfl (lv_at hl 1 rfl) ?_
  refine va_get (D := G) (ci := 2) (C := RX4) (T := TX4) (N := 15) hx hb hw in_X4 hown hK hP 0 rfl rfl 0 (by decide) (hw _ aw_100) (fun _ h9 => h9) rfl dX4_init_107 ?_
  refine lv_iload_n hx hb dX4_init_110 rfl (lv_at hl 0 rfl) ?_
  refine lv_iload_n hx hb dX4_init_111 rfl (lv_at hl 0 rfl) ?_
  refine lv_iconst (v := 3) hx hb dX4_init_112 (by decide) ?_
  refine lv_irem hx hb dX4_init_113 (by decide) ?_
  refine W.eq (g2 := F0 m 114 ls [.int (2 : Int32), .int (2 : Int32), .ref r_0]) rfl ?_
  refine nv_iast hx hb hK hP hD hS 1 0 rfl rfl 2 (by decide) (by decide) dX4_init_114 (ws' := [[(a, .inr (2, [.ref r_0, .ref r_1, .ref r_2, .ref r_3, .ref r_4, .ref r_5, .ref r_6, .ref r_7, .ref r_8, .ref r_9, .int 0, .int 0, .int 0, .ref r_10, .ref r_11]))], rwC r_0 cI 8 (upd (upd (upd (fun _ => 0) 0 (0 : Int32)) 1 (1 : Int32)) 2 (2 : Int32)), rwC r_1 cI 8 (upd (upd (fun _ => 0) 0 (30 : Int32)) 1 (31 : Int32)), rwC r_2 cI 8 (upd (upd (fun _ => 0) 0 (0 : Int32)) 1 (100 : Int32)), rwC r_3 cI 8 (upd (upd (fun _ => 0) 0 (50 : Int32)) 1 (50 : Int32)), rwC r_4 cI 8 (fun _ => 0), rwC r_5 cI 8 (fun _ => 0), rwC r_6 cI 8 (fun _ => 0), rwC r_7 cI 64 (fun _ => 0), rwC r_8 cI 3 (fun _ => 0), rwC r_9 cI 3 (fun _ => 0), rwC r_10 cI 8 (fun _ => 0), rwC r_11 cI 8 (fun _ => 0)].flatten) rfl (fun H locs hP hD hS => ?_)
  refine lv_aload_n hx hb dX4_init_115 rfl (lv_at hl 1 rfl) ?_
  refine va_get (D := G) (ci := 2) (C := RX4) (T := TX4) (N := 15) hx hb hw in_X4 hown hK hP 0 rfl rfl 1 (by decide) (hw _ aw_101) (fun _ h9 => h9) rfl dX4_init_116 ?_
  refine lv_iload_n hx hb dX4_init_119 rfl (lv_at hl 0 rfl) ?_
  refine lv_bipush (v := 30) hx hb dX4_init_120 (by decide) ?_
  refine lv_iload_n hx hb dX4_init_122 rfl (lv_at hl 0 rfl) ?_
  refine lv_iadd hx hb dX4_init_123 ?_
  refine W.eq (g2 := F0 m 124 ls [.int (32 : Int32), .int (2 : Int32), .ref r_1]) rfl ?_
  refine nv_iast hx hb hK hP hD hS 2 0 rfl rfl 2 (by decide) (by decide) dX4_init_124 (ws' := [[(a, .inr (2, [.ref r_0, .ref r_1, .ref r_2, .ref r_3, .ref r_4, .ref r_5, .ref r_6, .ref r_7, .ref r_8, .ref r_9, .int 0, .int 0, .int 0, .ref r_10, .ref r_11]))], rwC r_0 cI 8 (upd (upd (upd (fun _ => 0) 0 (0 : Int32)) 1 (1 : Int32)) 2 (2 : Int32)), rwC r_1 cI 8 (upd (upd (upd (fun _ => 0) 0 (30 : Int32)) 1 (31 : Int32)) 2 (32 : Int32)), rwC r_2 cI 8 (upd (upd (fun _ => 0) 0 (0 : Int32)) 1 (100 : Int32)), rwC r_3 cI 8 (upd (upd (fun _ => 0) 0 (50 : Int32)) 1 (50 : Int32)), rwC r_4 cI 8 (fun _ => 0), rwC r_5 cI 8 (fun _ => 0), rwC r_6 cI 8 (fun _ => 0), rwC r_7 cI 64 (fun _ => 0), rwC r_8 cI 3 (fun _ => 0), rwC r_9 cI 3 (fun _ => 0), rwC r_10 cI 8 (fun _ => 0), rwC r_11 cI 8 (fun _ => 0)].flatten) rfl (fun H locs hP hD hS => ?_)
  refine lv_aload_n hx hb dX4_init_125 rfl (lv_at hl 1 rfl) ?_
  refine va_get (D := G) (ci := 2) (C := RX4) (T := TX4) (N := 15) hx hb hw in_X4 hown hK hP 0 rfl rfl 2 (by decide) (hw _ aw_103) (fun _ h9 => h9) rfl dX4_init_126 ?_
  refine lv_iload_n hx hb dX4_init_129 rfl (lv_at hl 0 rfl) ?_
  refine lv_bipush (v := 100) hx hb dX4_init_130 (by decide) ?_
  refine lv_iload_n hx hb dX4_init_132 rfl (lv_at hl 0 rfl) ?_
  refine lv_imul hx hb dX4_init_133 ?_
  refine W.eq (g2 := F0 m 134 ls [.int (200 : Int32), .int (2 : Int32), .ref r_2]) rfl ?_
  refine nv_iast hx hb hK hP hD hS 3 0 rfl rfl 2 (by decide) (by decide) dX4_init_134 (ws' := [[(a, .inr (2, [.ref r_0, .ref r_1, .ref r_2, .ref r_3, .ref r_4, .ref r_5, .ref r_6, .ref r_7, .ref r_8, .ref r_9, .int 0, .int 0, .int 0, .ref r_10, .ref r_11]))], rwC r_0 cI 8 (upd (upd (upd (fun _ => 0) 0 (0 : Int32)) 1 (1 : Int32)) 2 (2 : Int32)), rwC r_1 cI 8 (upd (upd (upd (fun _ => 0) 0 (30 : Int32)) 1 (31 : Int32)) 2 (32 : Int32)), rwC r_2 cI 8 (upd (upd (upd (fun _ => 0) 0 (0 : Int32)) 1 (100 : Int32)) 2 (200 : Int32)), rwC r_3 cI 8 (upd (upd (fun _ => 0) 0 (50 : Int32)) 1 (50 : Int32)), rwC r_4 cI 8 (fun _ => 0), rwC r_5 cI 8 (fun _ => 0), rwC r_6 cI 8 (fun _ => 0), rwC r_7 cI 64 (fun _ => 0), rwC r_8 cI 3 (fun _ => 0), rwC r_9 cI 3 (fun _ => 0), rwC r_10 cI 8 (fun _ => 0), rwC r_11 cI 8 (fun _ => 0)].flatten) rfl (fun H locs hP hD hS => ?_)
  refine lv_aload_n hx hb dX4_init_135 rfl (lv_at hl 1 rfl) ?_
  refine va_get (D := G) (ci := 2) (C := RX4) (T := TX4) (N := 15) hx hb hw in_X4 hown hK hP 0 rfl rfl 3 (by decide) (hw _ aw_105) (fun _ h9 => h9) rfl dX4_init_136 ?_
  refine lv_iload_n hx hb dX4_init_139 rfl (lv_at hl 0 rfl) ?_
  refine lv_bipush (v := 50) hx hb dX4_init_140 (by decide) ?_
  refine nv_iast hx hb hK hP hD hS 4 0 rfl rfl 2 (by decide) (by decide) dX4_init_142 (ws' := [[(a, .inr (2, [.ref r_0, .ref r_1, .ref r_2, .ref r_3, .ref r_4, .ref r_5, .ref r_6, .ref r_7, .ref r_8, .ref r_9, .int 0, .int 0, .int 0, .ref r_10, .ref r_11]))], rwC r_0 cI 8 (upd (upd (upd (fun _ => 0) 0 (0 : Int32)) 1 (1 : Int32)) 2 (2 : Int32)), rwC r_1 cI 8 (upd (upd (upd (fun _ => 0) 0 (30 : Int32)) 1 (31 : Int32)) 2 (32 : Int32)), rwC r_2 cI 8 (upd (upd (upd (fun _ => 0) 0 (0 : Int32)) 1 (100 : Int32)) 2 (200 : Int32)), rwC r_3 cI 8 (upd (upd (upd (fun _ => 0) 0 (50 : Int32)) 1 (50 : Int32)) 2 (50 : Int32)), rwC r_4 cI 8 (fun _ => 0), rwC r_5 cI 8 (fun _ => 0), rwC r_6 cI 8 (fun _ => 0), rwC r_7 cI 64 (fun _ => 0), rwC r_8 cI 3 (fun _ => 0), rwC r_9 cI 3 (fun _ => 0), rwC r_10 cI 8 (fun _ => 0), rwC r_11 cI 8 (fun _ => 0)].flatten) rfl (fun H locs hP hD hS => ?_)
  refine lv_iinc (v := 3) (k := 0) (lv' := [(1, .int (3 : Int32)), (0, .ref a)]) hx hb dX4_init_143 hl rfl rfl (by decide) rfl (fun ls hl => ?_)
  refine lv_goto (tgt := 100) hx hb dX4_init_146 (by decide) ?_
  refine lv_iload_n hx hb dX4_init_100 rfl (lv_at hl 0 rfl) ?_
  refine lv_bipush (v := 8) hx hb dX4_init_101 (by decide) ?_
  refine nv_ge hx hb 3 8 149 (by decide) (by decide) dX4_init_103 (by decide) (fun c => absurd c (by decide)) (fun _ => ?_)
  refine lv_aload_n hx hb dX4_init_106 rfl (lv_at hl 1 rfl) ?_
  refine va_get (D := G) (ci := 2) (C := RX4) (T := TX4) (N := 15) hx hb hw in_X4 hown hK hP 0 rfl rfl 0 (by decide) (hw _ aw_100) (fun _ h9 => h9) rfl dX4_init_107 ?_
  refine lv_iload_n hx hb dX4_init_110 rfl (lv_at hl 0 rfl) ?_
  refine lv_iload_n hx hb dX4_init_111 rfl (lv_at hl 0 rfl) ?_
  refine lv_iconst (v := 3) hx hb dX4_init_112 (by decide) ?_
  refine lv_irem hx hb dX4_init_113 (by decide) ?_
  refine W.eq (g2 := F0 m 114 ls [.int (0 : Int32), .int (3 : Int32), .ref r_0]) rfl ?_
  refine nv_iast hx hb hK hP hD hS 1 0 rfl rfl 3 (by decide) (by decide) dX4_init_114 (ws' := [[(a, .inr (2, [.ref r_0, .ref r_1, .ref r_2, .ref r_3, .ref r_4, .ref r_5, .ref r_6, .ref r_7, .ref r_8, .ref r_9, .int 0, .int 0, .int 0, .ref r_10, .ref r_11]))], rwC r_0 cI 8 (upd (upd (upd (upd (fun _ => 0) 0 (0 : Int32)) 1 (1 : Int32)) 2 (2 : Int32)) 3 (0 : Int32)), rwC r_1 cI 8 (upd (upd (upd (fun _ => 0) 0 (30 : Int32)) 1 (31 : Int32)) 2 (32 : Int32)), rwC r_2 cI 8 (upd (upd (upd (fun _ => 0) 0 (0 : Int32)) 1 (100 : Int32)) 2 (200 : Int32)), rwC r_3 cI 8 (upd (upd (upd (fun _ => 0) 0 (50 : Int32)) 1 (50 : Int32)) 2 (50 : Int32)), rwC r_4 cI 8 (fun _ => 0), rwC r_5 cI 8 (fun _ => 0), rwC r_6 cI 8 (fun _ => 0), rwC r_7 cI 64 (fun _ => 0), rwC r_8 cI 3 (fun _ => 0), rwC r_9 cI 3 (fun _ => 0), rwC r_10 cI 8 (fun _ => 0), rwC r_11 cI 8 (fun _ => 0)].flatten) rfl (fun H locs hP hD hS => ?_)
  refine lv_aload_n hx hb dX4_init_115 rfl (lv_at hl 1 rfl) ?_
  refine va_get (D := G) (ci := 2) (C := RX4) (T := TX4) (N := 15) hx hb hw in_X4 hown hK hP 0 rfl rfl 1 (by decide) (hw _ aw_101) (fun _ h9 => h9) rfl dX4_init_116 ?_
  refine lv_iload_n hx hb dX4_init_119 rfl (lv_at hl 0 rfl) ?_
  refine lv_bipush (v := 30) hx hb dX4_init_120 (by decide) ?_
  refine lv_iload_n hx hb dX4_init_122 rfl (lv_at hl 0 rfl) ?_
  refine lv_iadd hx hb dX4_init_123 ?_
  refine W.eq (g2 := F0 m 124 ls [.int (33 : Int32), .int (3 : Int32), .ref r_1]) rfl ?_
  refine nv_iast hx hb hK hP hD hS 2 0 rfl rfl 3 (by decide) (by decide) dX4_init_124 (ws' := [[(a, .inr (2, [.ref r_0, .ref r_1, .ref r_2, .ref r_3, .ref r_4, .ref r_5, .ref r_6, .ref r_7, .ref r_8, .ref r_9, .int 0, .int 0, .int 0, .ref r_10, .ref r_11]))], rwC r_0 cI 8 (upd (upd (upd (upd (fun _ => 0) 0 (0 : Int32)) 1 (1 : Int32)) 2 (2 : Int32)) 3 (0 : Int32)), rwC r_1 cI 8 (upd (upd (upd (upd (fun _ => 0) 0 (30 : Int32)) 1 (31 : Int32)) 2 (32 : Int32)) 3 (33 : Int32)), rwC r_2 cI 8 (upd (upd (upd (fun _ => 0) 0 (0 : Int32)) 1 (100 : Int32)) 2 (200 : Int32)), rwC r_3 cI 8 (upd (upd (upd (fun _ => 0) 0 (50 : Int32)) 1 (50 : Int32)) 2 (50 : Int32)), rwC r_4 cI 8 (fun _ => 0), rwC r_5 cI 8 (fun _ => 0), rwC r_6 cI 8 (fun _ => 0), rwC r_7 cI 64 (fun _ => 0), rwC r_8 cI 3 (fun _ => 0), rwC r_9 cI 3 (fun _ => 0), rwC r_10 cI 8 (fun _ => 0), rwC r_11 cI 8 (fun _ => 0)].flatten) rfl (fun H locs hP hD hS => ?_)
  refine lv_aload_n hx hb dX4_init_125 rfl (lv_at hl 1 rfl) ?_
  refine va_get (D := G) (ci := 2) (C := RX4) (T := TX4) (N := 15) hx hb hw in_X4 hown hK hP 0 rfl rfl 2 (by decide) (hw _ aw_103) (fun _ h9 => h9) rfl dX4_init_126 ?_
  refine lv_iload_n hx hb dX4_init_129 rfl (lv_at hl 0 rfl) ?_
  refine lv_bipush (v := 100) hx hb dX4_init_130 (by decide) ?_
  refine lv_iload_n hx hb dX4_init_132 rfl (lv_at hl 0 rfl) ?_
  refine lv_imul hx hb dX4_init_133 ?_
  refine W.eq (g2 := F0 m 134 ls [.int (300 : Int32), .int (3 : Int32), .ref r_2]) rfl ?_
  refine nv_iast hx hb hK hP hD hS 3 0 rfl rfl 3 (by decide) (by decide) dX4_init_134 (ws' := [[(a, .inr (2, [.ref r_0, .ref r_1, .ref r_2, .ref r_3, .ref r_4, .ref r_5, .ref r_6, .ref r_7, .ref r_8, .ref r_9, .int 0, .int 0, .int 0, .ref r_10, .ref r_11]))], rwC r_0 cI 8 (upd (upd (upd (upd (fun _ => 0) 0 (0 : Int32)) 1 (1 : Int32)) 2 (2 : Int32)) 3 (0 : Int32)), rwC r_1 cI 8 (upd (upd (upd (upd (fun _ => 0) 0 (30 : Int32)) 1 (31 : Int32)) 2 (32 : Int32)) 3 (33 : Int32)), rwC r_2 cI 8 (upd (upd (upd (upd (fun _ => 0) 0 (0 : Int32)) 1 (100 : Int32)) 2 (200 : Int32)) 3 (300 : Int32)), rwC r_3 cI 8 (upd (upd (upd (fun _ => 0) 0 (50 : Int32)) 1 (50 : Int32)) 2 (50 : Int32)), rwC r_4 cI 8 (fun _ => 0), rwC r_5 cI 8 (fun _ => 0), rwC r_6 cI 8 (fun _ => 0), rwC r_7 cI 64 (fun _ => 0), rwC r_8 cI 3 (fun _ => 0), rwC r_9 cI 3 (fun _ => 0), rwC r_10 cI 8 (fun _ => 0), rwC r_11 cI 8 (fun _ => 0)].flatten) rfl (fun H locs hP hD hS => ?_)
  refine lv_aload_n hx hb dX4_init_135 rfl (lv_at hl 1 rfl) ?_
  refine va_get (D := G) (ci := 2) (C := RX4) (T := TX4) (N := 15) hx hb hw in_X4 hown hK hP 0 rfl rfl 3 (by decide) (hw _ aw_105) (fun _ h9 => h9) rfl dX4_init_136 ?_
  refine lv_iload_n hx hb dX4_init_139 rfl (lv_at hl 0 rfl) ?_
  refine lv_bipush (v := 50) hx hb dX4_init_140 (by decide) ?_
  refine nv_iast hx hb hK hP hD hS 4 0 rfl rfl 3 (by decide) (by decide) dX4_init_142 (ws' := [[(a, .inr (2, [.ref r_0, .ref r_1, .ref r_2, .ref r_3, .ref r_4, .ref r_5, .ref r_6, .ref r_7, .ref r_8, .ref r_9, .int 0, .int 0, .int 0, .ref r_10, .ref r_11]))], rwC r_0 cI 8 (upd (upd (upd (upd (fun _ => 0) 0 (0 : Int32)) 1 (1 : Int32)) 2 (2 : Int32)) 3 (0 : Int32)), rwC r_1 cI 8 (upd (upd (upd (upd (fun _ => 0) 0 (30 : Int32)) 1 (31 : Int32)) 2 (32 : Int32)) 3 (33 : Int32)), rwC r_2 cI 8 (upd (upd (upd (upd (fun _ => 0) 0 (0 : Int32)) 1 (100 : Int32)) 2 (200 : Int32)) 3 (300 : Int32)), rwC r_3 cI 8 (upd (upd (upd (upd (fun _ => 0) 0 (50 : Int32)) 1 (50 : Int32)) 2 (50 : Int32)) 3 (50 : Int32)), rwC r_4 cI 8 (fun _ => 0), rwC r_5 cI 8 (fun _ => 0), rwC r_6 cI 8 (fun _ => 0), rwC r_7 cI 64 (fun _ => 0), rwC r_8 cI 3 (fun _ => 0), rwC r_9 cI 3 (fun _ => 0), rwC r_10 cI 8 (fun _ => 0), rwC r_11 cI 8 (fun _ => 0)].flatten) rfl (fun H locs hP hD hS => ?_)
  refine lv_iinc (v := 4) (k := 0) (lv' := [(1, .int (4 : Int32)), (0, .ref a)]) hx hb dX4_init_143 hl rfl rfl (by decide) rfl (fun ls hl => ?_)
  refine lv_goto (tgt := 100) hx hb dX4_init_146 (by decide) ?_
  refine lv_iload_n hx hb dX4_init_100 rfl (lv_at hl 0 rfl) ?_
  refine lv_bipush (v := 8) hx hb dX4_init_101 (by decide) ?_
  refine nv_ge hx hb 4 8 149 (by decide) (by decide) dX4_init_103 (by decide) (fun c => absurd c (by decide)) (fun _ => ?_)
  refine lv_aload_n hx hb dX4_init_106 rfl (lv_at hl 1 rfl) ?_
  refine va_get (D := G) (ci := 2) (C := RX4) (T := TX4) (N := 15) hx hb hw in_X4 hown hK hP 0 rfl rfl 0 (by decide) (hw _ aw_100) (fun _ h9 => h9) rfl dX4_init_107 ?_
  refine lv_iload_n hx hb dX4_init_110 rfl (lv_at hl 0 rfl) ?_
  refine lv_iload_n hx hb dX4_init_111 rfl (lv_at hl 0 rfl) ?_
  refine lv_iconst (v := 3) hx hb dX4_init_112 (by decide) ?_
  refine lv_irem hx hb dX4_init_113 (by decide) ?_
  refine W.eq (g2 := F0 m 114 ls [.int (1 : Int32), .int (4 : Int32), .ref r_0]) rfl ?_
  refine nv_iast hx hb hK hP hD hS 1 0 rfl rfl 4 (by decide) (by decide) dX4_init_114 (ws' := [[(a, .inr (2, [.ref r_0, .ref r_1, .ref r_2, .ref r_3, .ref r_4, .ref r_5, .ref r_6, .ref r_7, .ref r_8, .ref r_9, .int 0, .int 0, .int 0, .ref r_10, .ref r_11]))], rwC r_0 cI 8 (upd (upd (upd (upd (upd (fun _ => 0) 0 (0 : Int32)) 1 (1 : Int32)) 2 (2 : Int32)) 3 (0 : Int32)) 4 (1 : Int32)), rwC r_1 cI 8 (upd (upd (upd (upd (fun _ => 0) 0 (30 : Int32)) 1 (31 : Int32)) 2 (32 : Int32)) 3 (33 : Int32)), rwC r_2 cI 8 (upd (upd (upd (upd (fun _ => 0) 0 (0 : Int32)) 1 (100 : Int32)) 2 (200 : Int32)) 3 (300 : Int32)), rwC r_3 cI 8 (upd (upd (upd (upd (fun _ => 0) 0 (50 : Int32)) 1 (50 : Int32)) 2 (50 : Int32)) 3 (50 : Int32)), rwC r_4 cI 8 (fun _ => 0), rwC r_5 cI 8 (fun _ => 0), rwC r_6 cI 8 (fun _ => 0), rwC r_7 cI 64 (fun _ => 0), rwC r_8 cI 3 (fun _ => 0), rwC r_9 cI 3 (fun _ => 0), rwC r_10 cI 8 (fun _ => 0), rwC r_11 cI 8 (fun _ => 0)].flatten) rfl (fun H locs hP hD hS => ?_)
  refine lv_aload_n hx hb dX4_init_115 rfl (lv_at hl 1 rfl) ?_
  refine va_get (D := G) (ci := 2) (C := RX4) (T := TX4) (N := 15) hx hb hw in_X4 hown hK hP 0 rfl rfl 1 (by decide) (hw _ aw_101) (fun _ h9 => h9) rfl dX4_init_116 ?_
  refine lv_iload_n hx hb dX4_init_119 rfl (lv_at hl 0 rfl) ?_
  refine lv_bipush (v := 30) hx hb dX4_init_120 (by decide) ?_
  refine lv_iload_n hx hb dX4_init_122 rfl (lv_at hl 0 rfl) ?_
  refine lv_iadd hx hb dX4_init_123 ?_
  refine W.eq (g2 := F0 m 124 ls [.int (34 : Int32), .int (4 : Int32), .ref r_1]) rfl ?_
  refine nv_iast hx hb hK hP hD hS 2 0 rfl rfl 4 (by decide) (by decide) dX4_init_124 (ws' := [[(a, .inr (2, [.ref r_0, .ref r_1, .ref r_2, .ref r_3, .ref r_4, .ref r_5, .ref r_6, .ref r_7, .ref r_8, .ref r_9, .int 0, .int 0, .int 0, .ref r_10, .ref r_11]))], rwC r_0 cI 8 (upd (upd (upd (upd (upd (fun _ => 0) 0 (0 : Int32)) 1 (1 : Int32)) 2 (2 : Int32)) 3 (0 : Int32)) 4 (1 : Int32)), rwC r_1 cI 8 (upd (upd (upd (upd (upd (fun _ => 0) 0 (30 : Int32)) 1 (31 : Int32)) 2 (32 : Int32)) 3 (33 : Int32)) 4 (34 : Int32)), rwC r_2 cI 8 (upd (upd (upd (upd (fun _ => 0) 0 (0 : Int32)) 1 (100 : Int32)) 2 (200 : Int32)) 3 (300 : Int32)), rwC r_3 cI 8 (upd (upd (upd (upd (fun _ => 0) 0 (50 : Int32)) 1 (50 : Int32)) 2 (50 : Int32)) 3 (50 : Int32)), rwC r_4 cI 8 (fun _ => 0), rwC r_5 cI 8 (fun _ => 0), rwC r_6 cI 8 (fun _ => 0), rwC r_7 cI 64 (fun _ => 0), rwC r_8 cI 3 (fun _ => 0), rwC r_9 cI 3 (fun _ => 0), rwC r_10 cI 8 (fun _ => 0), rwC r_11 cI 8 (fun _ => 0)].flatten) rfl (fun H locs hP hD hS => ?_)
  refine lv_aload_n hx hb dX4_init_125 rfl (lv_at hl 1 rfl) ?_
  refine va_get (D := G) (ci := 2) (C := RX4) (T := TX4) (N := 15) hx hb hw in_X4 hown hK hP 0 rfl rfl 2 (by decide) (hw _ aw_103) (fun _ h9 => h9) rfl dX4_init_126 ?_
  refine lv_iload_n hx hb dX4_init_129 rfl (lv_at hl 0 rfl) ?_
  refine lv_bipush (v := 100) hx hb dX4_init_130 (by decide) ?_
  refine lv_iload_n hx hb dX4_init_132 rfl (lv_at hl 0 rfl) ?_
  refine lv_imul hx hb dX4_init_133 ?_
  refine W.eq (g2 := F0 m 134 ls [.int (400 : Int32), .int (4 : Int32), .ref r_2]) rfl ?_
  refine nv_iast hx hb hK hP hD hS 3 0 rfl rfl 4 (by decide) (by decide) dX4_init_134 (ws' := [[(a, .inr (2, [.ref r_0, .ref r_1, .ref r_2, .ref r_3, .ref r_4, .ref r_5, .ref r_6, .ref r_7, .ref r_8, .ref r_9, .int 0, .int 0, .int 0, .ref r_10, .ref r_11]))], rwC r_0 cI 8 (upd (upd (upd (upd (upd (fun _ => 0) 0 (0 : Int32)) 1 (1 : Int32)) 2 (2 : Int32)) 3 (0 : Int32)) 4 (1 : Int32)), rwC r_1 cI 8 (upd (upd (upd (upd (upd (fun _ => 0) 0 (30 : Int32)) 1 (31 : Int32)) 2 (32 : Int32)) 3 (33 : Int32)) 4 (34 : Int32)), rwC r_2 cI 8 (upd (upd (upd (upd (upd (fun _ => 0) 0 (0 : Int32)) 1 (100 : Int32)) 2 (200 : Int32)) 3 (300 : Int32)) 4 (400 : Int32)), rwC r_3 cI 8 (upd (upd (upd (upd (fun _ => 0) 0 (50 : Int32)) 1 (50 : Int32)) 2 (50 : Int32)) 3 (50 : Int32)), rwC r_4 cI 8 (fun _ => 0), rwC r_5 cI 8 (fun _ => 0), rwC r_6 cI 8 (fun _ => 0), rwC r_7 cI 64 (fun _ => 0), rwC r_8 cI 3 (fun _ => 0), rwC r_9 cI 3 (fun _ => 0), rwC r_10 cI 8 (fun _ => 0), rwC r_11 cI 8 (fun _ => 0)].flatten) rfl (fun H locs hP hD hS => ?_)
  refine lv_aload_n hx hb dX4_init_135 rfl (lv_at hl 1 rfl) ?_
  refine va_get (D := G) (ci := 2) (C := RX4) (T := TX4) (N := 15) hx hb hw in_X4 hown hK hP 0 rfl rfl 3 (by decide) (hw _ aw_105) (fun _ h9 => h9) rfl dX4_init_136 ?_
  refine lv_iload_n hx hb dX4_init_139 rfl (lv_at hl 0 rfl) ?_
  refine lv_bipush (v := 50) hx hb dX4_init_140 (by decide) ?_
  refine nv_iast hx hb hK hP hD hS 4 0 rfl rfl 4 (by decide) (by decide) dX4_init_142 (ws' := [[(a, .inr (2, [.ref r_0, .ref r_1, .ref r_2, .ref r_3, .ref r_4, .ref r_5, .ref r_6, .ref r_7, .ref r_8, .ref r_9, .int 0, .int 0, .int 0, .ref r_10, .ref r_11]))], rwC r_0 cI 8 (upd (upd (upd (upd (upd (fun _ => 0) 0 (0 : Int32)) 1 (1 : Int32)) 2 (2 : Int32)) 3 (0 : Int32)) 4 (1 : Int32)), rwC r_1 cI 8 (upd (upd (upd (upd (upd (fun _ => 0) 0 (30 : Int32)) 1 (31 : Int32)) 2 (32 : Int32)) 3 (33 : Int32)) 4 (34 : Int32)), rwC r_2 cI 8 (upd (upd (upd (upd (upd (fun _ => 0) 0 (0 : Int32)) 1 (100 : Int32)) 2 (200 : Int32)) 3 (300 : Int32)) 4 (400 : Int32)), rwC r_3 cI 8 (upd (upd (upd (upd (upd (fun _ => 0) 0 (50 : Int32)) 1 (50 : Int32)) 2 (50 : Int32)) 3 (50 : Int32)) 4 (50 : Int32)), rwC r_4 cI 8 (fun _ => 0), rwC r_5 cI 8 (fun _ => 0), rwC r_6 cI 8 (fun _ => 0), rwC r_7 cI 64 (fun _ => 0), rwC r_8 cI 3 (fun _ => 0), rwC r_9 cI 3 (fun _ => 0), rwC r_10 cI 8 (fun _ => 0), rwC r_11 cI 8 (fun _ => 0)].flatten) rfl (fun H locs hP hD hS => ?_)
  refine lv_iinc (v := 5) (k := 0) (lv' := [(1, .int (5 : Int32)), (0, .ref a)]) hx hb dX4_init_143 hl rfl rfl (by decide) rfl (fun ls hl => ?_)
  refine lv_goto (tgt := 100) hx hb dX4_init_146 (by decide) ?_
  refine lv_iload_n hx hb dX4_init_100 rfl (lv_at hl 0 rfl) ?_
  refine lv_bipush (v := 8) hx hb dX4_init_101 (by decide) ?_
  refine nv_ge hx hb 5 8 149 (by decide) (by decide) dX4_init_103 (by decide) (fun c => absurd c (by decide)) (fun _ => ?_)
  refine lv_aload_n hx hb dX4_init_106 rfl (lv_at hl 1 rfl) ?_
  refine va_get (D := G) (ci := 2) (C := RX4) (T := TX4) (N := 15) hx hb hw in_X4 hown hK hP 0 rfl rfl 0 (by decide) (hw _ aw_100) (fun _ h9 => h9) rfl dX4_init_107 ?_
  refine lv_iload_n hx hb dX4_init_110 rfl (lv_at hl 0 rfl) ?_
  refine lv_iload_n hx hb dX4_init_111 rfl (lv_at hl 0 rfl) ?_
  refine lv_iconst (v := 3) hx hb dX4_init_112 (by decide) ?_
  refine lv_irem hx hb dX4_init_113 (by decide) ?_
  refine W.eq (g2 := F0 m 114 ls [.int (2 : Int32), .int (5 : Int32), .ref r_0]) rfl ?_
  refine nv_iast hx hb hK hP hD hS 1 0 rfl rfl 5 (by decide) (by decide) dX4_init_114 (ws' := [[(a, .inr (2, [.ref r_0, .ref r_1, .ref r_2, .ref r_3, .ref r_4, .ref r_5, .ref r_6, .ref r_7, .ref r_8, .ref r_9, .int 0, .int 0, .int 0, .ref r_10, .ref r_11]))], rwC r_0 cI 8 (upd (upd (upd (upd (upd (upd (fun _ => 0) 0 (0 : Int32)) 1 (1 : Int32)) 2 (2 : Int32)) 3 (0 : Int32)) 4 (1 : Int32)) 5 (2 : Int32)), rwC r_1 cI 8 (upd (upd (upd (upd (upd (fun _ => 0) 0 (30 : Int32)) 1 (31 : Int32)) 2 (32 : Int32)) 3 (33 : Int32)) 4 (34 : Int32)), rwC r_2 cI 8 (upd (upd (upd (upd (upd (fun _ => 0) 0 (0 : Int32)) 1 (100 : Int32)) 2 (200 : Int32)) 3 (300 : Int32)) 4 (400 : Int32)), rwC r_3 cI 8 (upd (upd (upd (upd (upd (fun _ => 0) 0 (50 : Int32)) 1 (50 : Int32)) 2 (50 : Int32)) 3 (50 : Int32)) 4 (50 : Int32)), rwC r_4 cI 8 (fun _ => 0), rwC r_5 cI 8 (fun _ => 0), rwC r_6 cI 8 (fun _ => 0), rwC r_7 cI 64 (fun _ => 0), rwC r_8 cI 3 (fun _ => 0), rwC r_9 cI 3 (fun _ => 0), rwC r_10 cI 8 (fun _ => 0), rwC r_11 cI 8 (fun _ => 0)].flatten) rfl (fun H locs hP hD hS => ?_)
  refine lv_aload_n hx hb dX4_init_115 rfl (lv_at hl 1 rfl) ?_
  refine va_get (D := G) (ci := 2) (C := RX4) (T := TX4) (N := 15) hx hb hw in_X4 hown hK hP 0 rfl rfl 1 (by decide) (hw _ aw_101) (fun _ h9 => h9) rfl dX4_init_116 ?_
  refine lv_iload_n hx hb dX4_init_119 rfl (lv_at hl 0 rfl) ?_
  refine lv_bipush (v := 30) hx hb dX4_init_120 (by decide) ?_
  refine lv_iload_n hx hb dX4_init_122 rfl (lv_at hl 0 rfl) ?_
  refine lv_iadd hx hb dX4_init_123 ?_
  refine W.eq (g2 := F0 m 124 ls [.int (35 : Int32), .int (5 : Int32), .ref r_1]) rfl ?_
  refine nv_iast hx hb hK hP hD hS 2 0 rfl rfl 5 (by decide) (by decide) dX4_init_124 (ws' := [[(a, .inr (2, [.ref r_0, .ref r_1, .ref r_2, .ref r_3, .ref r_4, .ref r_5, .ref r_6, .ref r_7, .ref r_8, .ref r_9, .int 0, .int 0, .int 0, .ref r_10, .ref r_11]))], rwC r_0 cI 8 (upd (upd (upd (upd (upd (upd (fun _ => 0) 0 (0 : Int32)) 1 (1 : Int32)) 2 (2 : Int32)) 3 (0 : Int32)) 4 (1 : Int32)) 5 (2 : Int32)), rwC r_1 cI 8 (upd (upd (upd (upd (upd (upd (fun _ => 0) 0 (30 : Int32)) 1 (31 : Int32)) 2 (32 : Int32)) 3 (33 : Int32)) 4 (34 : Int32)) 5 (35 : Int32)), rwC r_2 cI 8 (upd (upd (upd (upd (upd (fun _ => 0) 0 (0 : Int32)) 1 (100 : Int32)) 2 (200 : Int32)) 3 (300 : Int32)) 4 (400 : Int32)), rwC r_3 cI 8 (upd (upd (upd (upd (upd (fun _ => 0) 0 (50 : Int32)) 1 (50 : Int32)) 2 (50 : Int32)) 3 (50 : Int32)) 4 (50 : Int32)), rwC r_4 cI 8 (fun _ => 0), rwC r_5 cI 8 (fun _ => 0), rwC r_6 cI 8 (fun _ => 0), rwC r_7 cI 64 (fun _ => 0), rwC r_8 cI 3 (fun _ => 0), rwC r_9 cI 3 (fun _ => 0), rwC r_10 cI 8 (fun _ => 0), rwC r_11 cI 8 (fun _ => 0)].flatten) rfl (fun H locs hP hD hS => ?_)
  refine lv_aload_n hx hb dX4_init_125 rfl (lv_at hl 1 rfl) ?_
  refine va_get (D := G) (ci := 2) (C := RX4) (T := TX4) (N := 15) hx hb hw in_X4 hown hK hP 0 rfl rfl 2 (by decide) (hw _ aw_103) (fun _ h9 => h9) rfl dX4_init_126 ?_
  refine lv_iload_n hx hb dX4_init_129 rfl (lv_at hl 0 rfl) ?_
  refine lv_bipush (v := 100) hx hb dX4_init_130 (by decide) ?_
  refine lv_iload_n hx hb dX4_init_132 rfl (lv_at hl 0 rfl) ?_
  refine lv_imul hx hb dX4_init_133 ?_
  refine W.eq (g2 := F0 m 134 ls [.int (500 : Int32), .int (5 : Int32), .ref r_2]) rfl ?_
  refine nv_iast hx hb hK hP hD hS 3 0 rfl rfl 5 (by decide) (by decide) dX4_init_134 (ws' := [[(a, .inr (2, [.ref r_0, .ref r_1, .ref r_2, .ref r_3, .ref r_4, .ref r_5, .ref r_6, .ref r_7, .ref r_8, .ref r_9, .int 0, .int 0, .int 0, .ref r_10, .ref r_11]))], rwC r_0 cI 8 (upd (upd (upd (upd (upd (upd (fun _ => 0) 0 (0 : Int32)) 1 (1 : Int32)) 2 (2 : Int32)) 3 (0 : Int32)) 4 (1 : Int32)) 5 (2 : Int32)), rwC r_1 cI 8 (upd (upd (upd (upd (upd (upd (fun _ => 0) 0 (30 : Int32)) 1 (31 : Int32)) 2 (32 : Int32)) 3 (33 : Int32)) 4 (34 : Int32)) 5 (35 : Int32)), rwC r_2 cI 8 (upd (upd (upd (upd (upd (upd (fun _ => 0) 0 (0 : Int32)) 1 (100 : Int32)) 2 (200 : Int32)) 3 (300 : Int32)) 4 (400 : Int32)) 5 (500 : Int32)), rwC r_3 cI 8 (upd (upd (upd (upd (upd (fun _ => 0) 0 (50 : Int32)) 1 (50 : Int32)) 2 (50 : Int32)) 3 (50 : Int32)) 4 (50 : Int32)), rwC r_4 cI 8 (fun _ => 0), rwC r_5 cI 8 (fun _ => 0), rwC r_6 cI 8 (fun _ => 0), rwC r_7 cI 64 (fun _ => 0), rwC r_8 cI 3 (fun _ => 0), rwC r_9 cI 3 (fun _ => 0), rwC r_10 cI 8 (fun _ => 0), rwC r_11 cI 8 (fun _ => 0)].flatten) rfl (fun H locs hP hD hS => ?_)
  refine lv_aload_n hx hb dX4_init_135 rfl (lv_at hl 1 rfl) ?_
  refine va_get (D := G) (ci := 2) (C := RX4) (T := TX4) (N := 15) hx hb hw in_X4 hown hK hP 0 rfl rfl 3 (by decide) (hw _ aw_105) (fun _ h9 => h9) rfl dX4_init_136 ?_
  refine lv_iload_n hx hb dX4_init_139 rfl (lv_at hl 0 rfl) ?_
  refine lv_bipush (v := 50) hx hb dX4_init_140 (by decide) ?_
  refine nv_iast hx hb hK hP hD hS 4 0 rfl rfl 5 (by decide) (by decide) dX4_init_142 (ws' := [[(a, .inr (2, [.ref r_0, .ref r_1, .ref r_2, .ref r_3, .ref r_4, .ref r_5, .ref r_6, .ref r_7, .ref r_8, .ref r_9, .int 0, .int 0, .int 0, .ref r_10, .ref r_11]))], rwC r_0 cI 8 (upd (upd (upd (upd (upd (upd (fun _ => 0) 0 (0 : Int32)) 1 (1 : Int32)) 2 (2 : Int32)) 3 (0 : Int32)) 4 (1 : Int32)) 5 (2 : Int32)), rwC r_1 cI 8 (upd (upd (upd (upd (upd (upd (fun _ => 0) 0 (30 : Int32)) 1 (31 : Int32)) 2 (32 : Int32)) 3 (33 : Int32)) 4 (34 : Int32)) 5 (35 : Int32)), rwC r_2 cI 8 (upd (upd (upd (upd (upd (upd (fun _ => 0) 0 (0 : Int32)) 1 (100 : Int32)) 2 (200 : Int32)) 3 (300 : Int32)) 4 (400 : Int32)) 5 (500 : Int32)), rwC r_3 cI 8 (upd (upd (upd (upd (upd (upd (fun _ => 0) 0 (50 : Int32)) 1 (50 : Int32)) 2 (50 : Int32)) 3 (50 : Int32)) 4 (50 : Int32)) 5 (50 : Int32)), rwC r_4 cI 8 (fun _ => 0), rwC r_5 cI 8 (fun _ => 0), rwC r_6 cI 8 (fun _ => 0), rwC r_7 cI 64 (fun _ => 0), rwC r_8 cI 3 (fun _ => 0), rwC r_9 cI 3 (fun _ => 0), rwC r_10 cI 8 (fun _ => 0), rwC r_11 cI 8 (fun _ => 0)].flatten) rfl (fun H locs hP hD hS => ?_)
  refine lv_iinc (v := 6) (k := 0) (lv' := [(1, .int (6 : Int32)), (0, .ref a)]) hx hb dX4_init_143 hl rfl rfl (by decide) rfl (fun ls hl => ?_)
  refine lv_goto (tgt := 100) hx hb dX4_init_146 (by decide) ?_
  refine lv_iload_n hx hb dX4_init_100 rfl (lv_at hl 0 rfl) ?_
  refine lv_bipush (v := 8) hx hb dX4_init_101 (by decide) ?_
  refine nv_ge hx hb 6 8 149 (by decide) (by decide) dX4_init_103 (by decide) (fun c => absurd c (by decide)) (fun _ => ?_)
  refine lv_aload_n hx hb dX4_init_106 rfl (lv_at hl 1 rfl) ?_
  refine va_get (D := G) (ci := 2) (C := RX4) (T := TX4) (N := 15) hx hb hw in_X4 hown hK hP 0 rfl rfl 0 (by decide) (hw _ aw_100) (fun _ h9 => h9) rfl dX4_init_107 ?_
  refine lv_iload_n hx hb dX4_init_110 rfl (lv_at hl 0 rfl) ?_
  refine lv_iload_n hx hb dX4_init_111 rfl (lv_at hl 0 rfl) ?_
  refine lv_iconst (v := 3) hx hb dX4_init_112 (by decide) ?_
  refine lv_irem hx hb dX4_init_113 (by decide) ?_
  refine W.eq (g2 := F0 m 114 ls [.int (0 : Int32), .int (6 : Int32), .ref r_0]) rfl ?_
  refine nv_iast hx hb hK hP hD hS 1 0 rfl rfl 6 (by decide) (by decide) dX4_init_114 (ws' := [[(a, .inr (2, [.ref r_0, .ref r_1, .ref r_2, .ref r_3, .ref r_4, .ref r_5, .ref r_6, .ref r_7, .ref r_8, .ref r_9, .int 0, .int 0, .int 0, .ref r_10, .ref r_11]))], rwC r_0 cI 8 (upd (upd (upd (upd (upd (upd (upd (fun _ => 0) 0 (0 : Int32)) 1 (1 : Int32)) 2 (2 : Int32)) 3 (0 : Int32)) 4 (1 : Int32)) 5 (2 : Int32)) 6 (0 : Int32)), rwC r_1 cI 8 (upd (upd (upd (upd (upd (upd (fun _ => 0) 0 (30 : Int32)) 1 (31 : Int32)) 2 (32 : Int32)) 3 (33 : Int32)) 4 (34 : Int32)) 5 (35 : Int32)), rwC r_2 cI 8 (upd (upd (upd (upd (upd (upd (fun _ => 0) 0 (0 : Int32)) 1 (100 : Int32)) 2 (200 : Int32)) 3 (300 : Int32)) 4 (400 : Int32)) 5 (500 : Int32)), rwC r_3 cI 8 (upd (upd (upd (upd (upd (upd (fun _ => 0) 0 (50 : Int32)) 1 (50 : Int32)) 2 (50 : Int32)) 3 (50 : Int32)) 4 (50 : Int32)) 5 (50 : Int32)), rwC r_4 cI 8 (fun _ => 0), rwC r_5 cI 8 (fun _ => 0), rwC r_6 cI 8 (fun _ => 0), rwC r_7 cI 64 (fun _ => 0), rwC r_8 cI 3 (fun _ => 0), rwC r_9 cI 3 (fun _ => 0), rwC r_10 cI 8 (fun _ => 0), rwC r_11 cI 8 (fun _ => 0)].flatten) rfl (fun H locs hP hD hS => ?_)
  refine lv_aload_n hx hb dX4_init_115 rfl (lv_at hl 1 rfl) ?_
  refine va_get (D := G) (ci := 2) (C := RX4) (T := TX4) (N := 15) hx hb hw in_X4 hown hK hP 0 rfl rfl 1 (by decide) (hw _ aw_101) (fun _ h9 => h9) rfl dX4_init_116 ?_
  refine lv_iload_n hx hb dX4_init_119 rfl (lv_at hl 0 rfl) ?_
  refine lv_bipush (v := 30) hx hb dX4_init_120 (by decide) ?_
  refine lv_iload_n hx hb dX4_init_122 rfl (lv_at hl 0 rfl) ?_
  refine lv_iadd hx hb dX4_init_123 ?_
  refine W.eq (g2 := F0 m 124 ls [.int (36 : Int32), .int (6 : Int32), .ref r_1]) rfl ?_
  refine nv_iast hx hb hK hP hD hS 2 0 rfl rfl 6 (by decide) (by decide) dX4_init_124 (ws' := [[(a, .inr (2, [.ref r_0, .ref r_1, .ref r_2, .ref r_3, .ref r_4, .ref r_5, .ref r_6, .ref r_7, .ref r_8, .ref r_9, .int 0, .int 0, .int 0, .ref r_10, .ref r_11]))], rwC r_0 cI 8 (upd (upd (upd (upd (upd (upd (upd (fun _ => 0) 0 (0 : Int32)) 1 (1 : Int32)) 2 (2 : Int32)) 3 (0 : Int32)) 4 (1 : Int32)) 5 (2 : Int32)) 6 (0 : Int32)), rwC r_1 cI 8 (upd (upd (upd (upd (upd (upd (upd (fun _ => 0) 0 (30 : Int32)) 1 (31 : Int32)) 2 (32 : Int32)) 3 (33 : Int32)) 4 (34 : Int32)) 5 (35 : Int32)) 6 (36 : Int32)), rwC r_2 cI 8 (upd (upd (upd (upd (upd (upd (fun _ => 0) 0 (0 : Int32)) 1 (100 : Int32)) 2 (200 : Int32)) 3 (300 : Int32)) 4 (400 : Int32)) 5 (500 : Int32)), rwC r_3 cI 8 (upd (upd (upd (upd (upd (upd (fun _ => 0) 0 (50 : Int32)) 1 (50 : Int32)) 2 (50 : Int32)) 3 (50 : Int32)) 4 (50 : Int32)) 5 (50 : Int32)), rwC r_4 cI 8 (fun _ => 0), rwC r_5 cI 8 (fun _ => 0), rwC r_6 cI 8 (fun _ => 0), rwC r_7 cI 64 (fun _ => 0), rwC r_8 cI 3 (fun _ => 0), rwC r_9 cI 3 (fun _ => 0), rwC r_10 cI 8 (fun _ => 0), rwC r_11 cI 8 (fun _ => 0)].flatten) rfl (fun H locs hP hD hS => ?_)
  refine lv_aload_n hx hb dX4_init_125 rfl (lv_at hl 1 rfl) ?_
  refine va_get (D := G) (ci := 2) (C := RX4) (T := TX4) (N := 15) hx hb hw in_X4 hown hK hP 0 rfl rfl 2 (by decide) (hw _ aw_103) (fun _ h9 => h9) rfl dX4_init_126 ?_
  refine lv_iload_n hx hb dX4_init_129 rfl (lv_at hl 0 rfl) ?_
  refine lv_bipush (v := 100) hx hb dX4_init_130 (by decide) ?_
  refine lv_iload_n hx hb dX4_init_132 rfl (lv_at hl 0 rfl) ?_
  refine lv_imul hx hb dX4_init_133 ?_
  refine W.eq (g2 := F0 m 134 ls [.int (600 : Int32), .int (6 : Int32), .ref r_2]) rfl ?_
  refine nv_iast hx hb hK hP hD hS 3 0 rfl rfl 6 (by decide) (by decide) dX4_init_134 (ws' := [[(a, .inr (2, [.ref r_0, .ref r_1, .ref r_2, .ref r_3, .ref r_4, .ref r_5, .ref r_6, .ref r_7, .ref r_8, .ref r_9, .int 0, .int 0, .int 0, .ref r_10, .ref r_11]))], rwC r_0 cI 8 (upd (upd (upd (upd (upd (upd (upd (fun _ => 0) 0 (0 : Int32)) 1 (1 : Int32)) 2 (2 : Int32)) 3 (0 : Int32)) 4 (1 : Int32)) 5 (2 : Int32)) 6 (0 : Int32)), rwC r_1 cI 8 (upd (upd (upd (upd (upd (upd (upd (fun _ => 0) 0 (30 : Int32)) 1 (31 : Int32)) 2 (32 : Int32)) 3 (33 : Int32)) 4 (34 : Int32)) 5 (35 : Int32)) 6 (36 : Int32)), rwC r_2 cI 8 (upd (upd (upd (upd (upd (upd (upd (fun _ => 0) 0 (0 : Int32)) 1 (100 : Int32)) 2 (200 : Int32)) 3 (300 : Int32)) 4 (400 : Int32)) 5 (500 : Int32)) 6 (600 : Int32)), rwC r_3 cI 8 (upd (upd (upd (upd (upd (upd (fun _ => 0) 0 (50 : Int32)) 1 (50 : Int32)) 2 (50 : Int32)) 3 (50 : Int32)) 4 (50 : Int32)) 5 (50 : Int32)), rwC r_4 cI 8 (fun _ => 0), rwC r_5 cI 8 (fun _ => 0), rwC r_6 cI 8 (fun _ => 0), rwC r_7 cI 64 (fun _ => 0), rwC r_8 cI 3 (fun _ => 0), rwC r_9 cI 3 (fun _ => 0), rwC r_10 cI 8 (fun _ => 0), rwC r_11 cI 8 (fun _ => 0)].flatten) rfl (fun H locs hP hD hS => ?_)
  refine lv_aload_n hx hb dX4_init_135 rfl (lv_at hl 1 rfl) ?_
  refine va_get (D := G) (ci := 2) (C := RX4) (T := TX4) (N := 15) hx hb hw in_X4 hown hK hP 0 rfl rfl 3 (by decide) (hw _ aw_105) (fun _ h9 => h9) rfl dX4_init_136 ?_
  refine lv_iload_n hx hb dX4_init_139 rfl (lv_at hl 0 rfl) ?_
  refine lv_bipush (v := 50) hx hb dX4_init_140 (by decide) ?_
  refine nv_iast hx hb hK hP hD hS 4 0 rfl rfl 6 (by decide) (by decide) dX4_init_142 (ws' := [[(a, .inr (2, [.ref r_0, .ref r_1, .ref r_2, .ref r_3, .ref r_4, .ref r_5, .ref r_6, .ref r_7, .ref r_8, .ref r_9, .int 0, .int 0, .int 0, .ref r_10, .ref r_11]))], rwC r_0 cI 8 (upd (upd (upd (upd (upd (upd (upd (fun _ => 0) 0 (0 : Int32)) 1 (1 : Int32)) 2 (2 : Int32)) 3 (0 : Int32)) 4 (1 : Int32)) 5 (2 : Int32)) 6 (0 : Int32)), rwC r_1 cI 8 (upd (upd (upd (upd (upd (upd (upd (fun _ => 0) 0 (30 : Int32)) 1 (31 : Int32)) 2 (32 : Int32)) 3 (33 : Int32)) 4 (34 : Int32)) 5 (35 : Int32)) 6 (36 : Int32)), rwC r_2 cI 8 (upd (upd (upd (upd (upd (upd (upd (fun _ => 0) 0 (0 : Int32)) 1 (100 : Int32)) 2 (200 : Int32)) 3 (300 : Int32)) 4 (400 : Int32)) 5 (500 : Int32)) 6 (600 : Int32)), rwC r_3 cI 8 (upd (upd (upd (upd (upd (upd (upd (fun _ => 0) 0 (50 : Int32)) 1 (50 : Int32)) 2 (50 : Int32)) 3 (50 : Int32)) 4 (50 : Int32)) 5 (50 : Int32)) 6 (50 : Int32)), rwC r_4 cI 8 (fun _ => 0), rwC r_5 cI 8 (fun _ => 0), rwC r_6 cI 8 (fun _ => 0), rwC r_7 cI 64 (fun _ => 0), rwC r_8 cI 3 (fun _ => 0), rwC r_9 cI 3 (fun _ => 0), rwC r_10 cI 8 (fun _ => 0), rwC r_11 cI 8 (fun _ => 0)].flatten) rfl (fun H locs hP hD hS => ?_)
  refine lv_iinc (v := 7) (k := 0) (lv' := [(1, .int (7 : Int32)), (0, .ref a)]) hx hb dX4_init_143 hl rfl rfl (by decide) rfl (fun ls hl => ?_)
  refine lv_goto (tgt := 100) hx hb dX4_init_146 (by decide) ?_
  refine lv_iload_n hx hb dX4_init_100 rfl (lv_at hl 0 rfl) ?_
  refine lv_bipush (v := 8) hx hb dX4_init_101 (by decide) ?_
  refine nv_ge hx hb 7 8 149 (by decide) (by decide) dX4_init_103 (by decide) (fun c => absurd c (by decide)) (fun _ => ?_)
  refine lv_aload_n hx hb dX4_init_106 rfl (lv_at hl 1 rfl) ?_
  refine va_get (D := G) (ci := 2) (C := RX4) (T := TX4) (N := 15) hx hb hw in_X4 hown hK hP 0 rfl rfl 0 (by decide) (hw _ aw_100) (fun _ h9 => h9) rfl dX4_init_107 ?_
  refine lv_iload_n hx hb dX4_init_110 rfl (lv_at hl 0 rfl) ?_
  refine lv_iload_n hx hb dX4_init_111 rfl (lv_at hl 0 rfl) ?_
  refine lv_iconst (v := 3) hx hb dX4_init_112 (by decide) ?_
  refine lv_irem hx hb dX4_init_113 (by decide) ?_
  refine W.eq (g2 := F0 m 114 ls [.int (1 : Int32), .int (7 : Int32), .ref r_0]) rfl ?_
  refine nv_iast hx hb hK hP hD hS 1 0 rfl rfl 7 (by decide) (by decide) dX4_init_114 (ws' := [[(a, .inr (2, [.ref r_0, .ref r_1, .ref r_2, .ref r_3, .ref r_4, .ref r_5, .ref r_6, .ref r_7, .ref r_8, .ref r_9, .int 0, .int 0, .int 0, .ref r_10, .ref r_11]))], rwC r_0 cI 8 (upd (upd (upd (upd (upd (upd (upd (upd (fun _ => 0) 0 (0 : Int32)) 1 (1 : Int32)) 2 (2 : Int32)) 3 (0 : Int32)) 4 (1 : Int32)) 5 (2 : Int32)) 6 (0 : Int32)) 7 (1 : Int32)), rwC r_1 cI 8 (upd (upd (upd (upd (upd (upd (upd (fun _ => 0) 0 (30 : Int32)) 1 (31 : Int32)) 2 (32 : Int32)) 3 (33 : Int32)) 4 (34 : Int32)) 5 (35 : Int32)) 6 (36 : Int32)), rwC r_2 cI 8 (upd (upd (upd (upd (upd (upd (upd (fun _ => 0) 0 (0 : Int32)) 1 (100 : Int32)) 2 (200 : Int32)) 3 (300 : Int32)) 4 (400 : Int32)) 5 (500 : Int32)) 6 (600 : Int32)), rwC r_3 cI 8 (upd (upd (upd (upd (upd (upd (upd (fun _ => 0) 0 (50 : Int32)) 1 (50 : Int32)) 2 (50 : Int32)) 3 (50 : Int32)) 4 (50 : Int32)) 5 (50 : Int32)) 6 (50 : Int32)), rwC r_4 cI 8 (fun _ => 0), rwC r_5 cI 8 (fun _ => 0), rwC r_6 cI 8 (fun _ => 0), rwC r_7 cI 64 (fun _ => 0), rwC r_8 cI 3 (fun _ => 0), rwC r_9 cI 3 (fun _ => 0), rwC r_10 cI 8 (fun _ => 0), rwC r_11 cI 8 (fun _ => 0)].flatten) rfl (fun H locs hP hD hS => ?_)
  refine lv_aload_n hx hb dX4_init_115 rfl (lv_at hl 1 rfl) ?_
  refine va_get (D := G) (ci := 2) (C := RX4) (T := TX4) (N := 15) hx hb hw in_X4 hown hK hP 0 rfl rfl 1 (by decide) (hw _ aw_101) (fun _ h9 => h9) rfl dX4_init_116 ?_
  refine lv_iload_n hx hb dX4_init_119 rfl (lv_at hl 0 rfl) ?_
  refine lv_bipush (v := 30) hx hb dX4_init_120 (by decide) ?_
  refine lv_iload_n hx hb dX4_init_122 rfl (lv_at hl 0 rfl) ?_
  refine lv_iadd hx hb dX4_init_123 ?_
  refine W.eq (g2 := F0 m 124 ls [.int (37 : Int32), .int (7 : Int32), .ref r_1]) rfl ?_
  refine nv_iast hx hb hK hP hD hS 2 0 rfl rfl 7 (by decide) (by decide) dX4_init_124 (ws' := [[(a, .inr (2, [.ref r_0, .ref r_1, .ref r_2, .ref r_3, .ref r_4, .ref r_5, .ref r_6, .ref r_7, .ref r_8, .ref r_9, .int 0, .int 0, .int 0, .ref r_10, .ref r_11]))], rwC r_0 cI 8 (upd (upd (upd (upd (upd (upd (upd (upd (fun _ => 0) 0 (0 : Int32)) 1 (1 : Int32)) 2 (2 : Int32)) 3 (0 : Int32)) 4 (1 : Int32)) 5 (2 : Int32)) 6 (0 : Int32)) 7 (1 : Int32)), rwC r_1 cI 8 (upd (upd (upd (upd (upd (upd (upd (upd (fun _ => 0) 0 (30 : Int32)) 1 (31 : Int32)) 2 (32 : Int32)) 3 (33 : Int32)) 4 (34 : Int32)) 5 (35 : Int32)) 6 (36 : Int32)) 7 (37 : Int32)), rwC r_2 cI 8 (upd (upd (upd (upd (upd (upd (upd (fun _ => 0) 0 (0 : Int32)) 1 (100 : Int32)) 2 (200 : Int32)) 3 (300 : Int32)) 4 (400 : Int32)) 5 (500 : Int32)) 6 (600 : Int32)), rwC r_3 cI 8 (upd (upd (upd (upd (upd (upd (upd (fun _ => 0) 0 (50 : Int32)) 1 (50 : Int32)) 2 (50 : Int32)) 3 (50 : Int32)) 4 (50 : Int32)) 5 (50 : Int32)) 6 (50 : Int32)), rwC r_4 cI 8 (fun _ => 0), rwC r_5 cI 8 (fun _ => 0), rwC r_6 cI 8 (fun _ => 0), rwC r_7 cI 64 (fun _ => 0), rwC r_8 cI 3 (fun _ => 0), rwC r_9 cI 3 (fun _ => 0), rwC r_10 cI 8 (fun _ => 0), rwC r_11 cI 8 (fun _ => 0)].flatten) rfl (fun H locs hP hD hS => ?_)
  refine lv_aload_n hx hb dX4_init_125 rfl (lv_at hl 1 rfl) ?_
  refine va_get (D := G) (ci := 2) (C := RX4) (T := TX4) (N := 15) hx hb hw in_X4 hown hK hP 0 rfl rfl 2 (by decide) (hw _ aw_103) (fun _ h9 => h9) rfl dX4_init_126 ?_
  refine lv_iload_n hx hb dX4_init_129 rfl (lv_at hl 0 rfl) ?_
  refine lv_bipush (v := 100) hx hb dX4_init_130 (by decide) ?_
  refine lv_iload_n hx hb dX4_init_132 rfl (lv_at hl 0 rfl) ?_
  refine lv_imul hx hb dX4_init_133 ?_
  refine W.eq (g2 := F0 m 134 ls [.int (700 : Int32), .int (7 : Int32), .ref r_2]) rfl ?_
  refine nv_iast hx hb hK hP hD hS 3 0 rfl rfl 7 (by decide) (by decide) dX4_init_134 (ws' := [[(a, .inr (2, [.ref r_0, .ref r_1, .ref r_2, .ref r_3, .ref r_4, .ref r_5, .ref r_6, .ref r_7, .ref r_8, .ref r_9, .int 0, .int 0, .int 0, .ref r_10, .ref r_11]))], rwC r_0 cI 8 (upd (upd (upd (upd (upd (upd (upd (upd (fun _ => 0) 0 (0 : Int32)) 1 (1 : Int32)) 2 (2 : Int32)) 3 (0 : Int32)) 4 (1 : Int32)) 5 (2 : Int32)) 6 (0 : Int32)) 7 (1 : Int32)), rwC r_1 cI 8 (upd (upd (upd (upd (upd (upd (upd (upd (fun _ => 0) 0 (30 : Int32)) 1 (31 : Int32)) 2 (32 : Int32)) 3 (33 : Int32)) 4 (34 : Int32)) 5 (35 : Int32)) 6 (36 : Int32)) 7 (37 : Int32)), rwC r_2 cI 8 (upd (upd (upd (upd (upd (upd (upd (upd (fun _ => 0) 0 (0 : Int32)) 1 (100 : Int32)) 2 (200 : Int32)) 3 (300 : Int32)) 4 (400 : Int32)) 5 (500 : Int32)) 6 (600 : Int32)) 7 (700 : Int32)), rwC r_3 cI 8 (upd (upd (upd (upd (upd (upd (upd (fun _ => 0) 0 (50 : Int32)) 1 (50 : Int32)) 2 (50 : Int32)) 3 (50 : Int32)) 4 (50 : Int32)) 5 (50 : Int32)) 6 (50 : Int32)), rwC r_4 cI 8 (fun _ => 0), rwC r_5 cI 8 (fun _ => 0), rwC r_6 cI 8 (fun _ => 0), rwC r_7 cI 64 (fun _ => 0), rwC r_8 cI 3 (fun _ => 0), rwC r_9 cI 3 (fun _ => 0), rwC r_10 cI 8 (fun _ => 0), rwC r_11 cI 8 (fun _ => 0)].flatten) rfl (fun H locs hP hD hS => ?_)
  refine lv_aload_n hx hb dX4_init_135 rfl (lv_at hl 1 rfl) ?_
  refine va_get (D := G) (ci := 2) (C := RX4) (T := TX4) (N := 15) hx hb hw in_X4 hown hK hP 0 rfl rfl 3 (by decide) (hw _ aw_105) (fun _ h9 => h9) rfl dX4_init_136 ?_
  refine lv_iload_n hx hb dX4_init_139 rfl (lv_at hl 0 rfl) ?_
  refine lv_bipush (v := 50) hx hb dX4_init_140 (by decide) ?_
  refine nv_iast hx hb hK hP hD hS 4 0 rfl rfl 7 (by decide) (by decide) dX4_init_142 (ws' := [[(a, .inr (2, [.ref r_0, .ref r_1, .ref r_2, .ref r_3, .ref r_4, .ref r_5, .ref r_6, .ref r_7, .ref r_8, .ref r_9, .int 0, .int 0, .int 0, .ref r_10, .ref r_11]))], rwC r_0 cI 8 (upd (upd (upd (upd (upd (upd (upd (upd (fun _ => 0) 0 (0 : Int32)) 1 (1 : Int32)) 2 (2 : Int32)) 3 (0 : Int32)) 4 (1 : Int32)) 5 (2 : Int32)) 6 (0 : Int32)) 7 (1 : Int32)), rwC r_1 cI 8 (upd (upd (upd (upd (upd (upd (upd (upd (fun _ => 0) 0 (30 : Int32)) 1 (31 : Int32)) 2 (32 : Int32)) 3 (33 : Int32)) 4 (34 : Int32)) 5 (35 : Int32)) 6 (36 : Int32)) 7 (37 : Int32)), rwC r_2 cI 8 (upd (upd (upd (upd (upd (upd (upd (upd (fun _ => 0) 0 (0 : Int32)) 1 (100 : Int32)) 2 (200 : Int32)) 3 (300 : Int32)) 4 (400 : Int32)) 5 (500 : Int32)) 6 (600 : Int32)) 7 (700 : Int32)), rwC r_3 cI 8 (upd (upd (upd (upd (upd (upd (upd (upd (fun _ => 0) 0 (50 : Int32)) 1 (50 : Int32)) 2 (50 : Int32)) 3 (50 : Int32)) 4 (50 : Int32)) 5 (50 : Int32)) 6 (50 : Int32)) 7 (50 : Int32)), rwC r_4 cI 8 (fun _ => 0), rwC r_5 cI 8 (fun _ => 0), rwC r_6 cI 8 (fun _ => 0), rwC r_7 cI 64 (fun _ => 0), rwC r_8 cI 3 (fun _ => 0), rwC r_9 cI 3 (fun _ => 0), rwC r_10 cI 8 (fun _ => 0), rwC r_11 cI 8 (fun _ => 0)].flatten) rfl (fun H locs hP hD hS => ?_)
  refine lv_iinc (v := 8) (k := 0) (lv' := [(1, .int (8 : Int32)), (0, .ref a)]) hx hb dX4_init_143 hl rfl rfl (by decide) rfl (fun ls hl => ?_)
  refine lv_goto (tgt := 100) hx hb dX4_init_146 (by decide) ?_
  refine lv_iload_n hx hb dX4_init_100 rfl (lv_at hl 0 rfl) ?_
  refine lv_bipush (v := 8) hx hb dX4_init_101 (by decide) ?_
  refine nv_ge hx hb 8 8 149 (by decide) (by decide) dX4_init_103 (by decide) (fun _ => ?_) (fun c => absurd (by decide) c)
  refine lv_iconst (v := 0) hx hb dX4_init_149 (by decide) ?_
  refine lv_istore_n (lv' := [(1, .int (0 : Int32)), (0, .ref a)]) hx hb dX4_init_150 rfl hl (by decide) rfl (fun ls hl => ?_)
  refine lv_iload_n hx hb dX4_init_151 rfl (lv_at hl 0 rfl) ?_
  refine lv_iconst (v := 3) hx hb dX4_init_152 (by decide) ?_
  refine nv_ge hx hb 0 3 169 (by decide) (by decide) dX4_init_153 (by decide) (fun c => absurd c (by decide)) (fun _ => ?_)
  refine lv_aload_n hx hb dX4_init_156 rfl (lv_at hl 1 rfl) ?_
  refine va_get (D := G) (ci := 2) (C := RX4) (T := TX4) (N := 15) hx hb hw in_X4 hown hK hP 0 rfl rfl 8 (by decide) (hw _ aw_112) (fun _ h9 => h9) rfl dX4_init_157 ?_
  refine lv_iload_n hx hb dX4_init_160 rfl (lv_at hl 0 rfl) ?_
  refine lv_iconst (v := 4) hx hb dX4_init_161 (by decide) ?_
  refine nv_iast hx hb hK hP hD hS 9 0 rfl rfl 0 (by decide) (by decide) dX4_init_162 (ws' := [[(a, .inr (2, [.ref r_0, .ref r_1, .ref r_2, .ref r_3, .ref r_4, .ref r_5, .ref r_6, .ref r_7, .ref r_8, .ref r_9, .int 0, .int 0, .int 0, .ref r_10, .ref r_11]))], rwC r_0 cI 8 (upd (upd (upd (upd (upd (upd (upd (upd (fun _ => 0) 0 (0 : Int32)) 1 (1 : Int32)) 2 (2 : Int32)) 3 (0 : Int32)) 4 (1 : Int32)) 5 (2 : Int32)) 6 (0 : Int32)) 7 (1 : Int32)), rwC r_1 cI 8 (upd (upd (upd (upd (upd (upd (upd (upd (fun _ => 0) 0 (30 : Int32)) 1 (31 : Int32)) 2 (32 : Int32)) 3 (33 : Int32)) 4 (34 : Int32)) 5 (35 : Int32)) 6 (36 : Int32)) 7 (37 : Int32)), rwC r_2 cI 8 (upd (upd (upd (upd (upd (upd (upd (upd (fun _ => 0) 0 (0 : Int32)) 1 (100 : Int32)) 2 (200 : Int32)) 3 (300 : Int32)) 4 (400 : Int32)) 5 (500 : Int32)) 6 (600 : Int32)) 7 (700 : Int32)), rwC r_3 cI 8 (upd (upd (upd (upd (upd (upd (upd (upd (fun _ => 0) 0 (50 : Int32)) 1 (50 : Int32)) 2 (50 : Int32)) 3 (50 : Int32)) 4 (50 : Int32)) 5 (50 : Int32)) 6 (50 : Int32)) 7 (50 : Int32)), rwC r_4 cI 8 (fun _ => 0), rwC r_5 cI 8 (fun _ => 0), rwC r_6 cI 8 (fun _ => 0), rwC r_7 cI 64 (fun _ => 0), rwC r_8 cI 3 (upd (fun _ => 0) 0 (4 : Int32)), rwC r_9 cI 3 (fun _ => 0), rwC r_10 cI 8 (fun _ => 0), rwC r_11 cI 8 (fun _ => 0)].flatten) rfl (fun H locs hP hD hS => ?_)
  refine lv_iinc (v := 1) (k := 0) (lv' := [(1, .int (1 : Int32)), (0, .ref a)]) hx hb dX4_init_163 hl rfl rfl (by decide) rfl (fun ls hl => ?_)
  refine lv_goto (tgt := 151) hx hb dX4_init_166 (by decide) ?_
  refine lv_iload_n hx hb dX4_init_151 rfl (lv_at hl 0 rfl) ?_
  refine lv_iconst (v := 3) hx hb dX4_init_152 (by decide) ?_
  refine nv_ge hx hb 1 3 169 (by decide) (by decide) dX4_init_153 (by decide) (fun c => absurd c (by decide)) (fun _ => ?_)
  refine lv_aload_n hx hb dX4_init_156 rfl (lv_at hl 1 rfl) ?_
  refine va_get (D := G) (ci := 2) (C := RX4) (T := TX4) (N := 15) hx hb hw in_X4 hown hK hP 0 rfl rfl 8 (by decide) (hw _ aw_112) (fun _ h9 => h9) rfl dX4_init_157 ?_
  refine lv_iload_n hx hb dX4_init_160 rfl (lv_at hl 0 rfl) ?_
  refine lv_iconst (v := 4) hx hb dX4_init_161 (by decide) ?_
  refine nv_iast hx hb hK hP hD hS 9 0 rfl rfl 1 (by decide) (by decide) dX4_init_162 (ws' := [[(a, .inr (2, [.ref r_0, .ref r_1, .ref r_2, .ref r_3, .ref r_4, .ref r_5, .ref r_6, .ref r_7, .ref r_8, .ref r_9, .int 0, .int 0, .int 0, .ref r_10, .ref r_11]))], rwC r_0 cI 8 (upd (upd (upd (upd (upd (upd (upd (upd (fun _ => 0) 0 (0 : Int32)) 1 (1 : Int32)) 2 (2 : Int32)) 3 (0 : Int32)) 4 (1 : Int32)) 5 (2 : Int32)) 6 (0 : Int32)) 7 (1 : Int32)), rwC r_1 cI 8 (upd (upd (upd (upd (upd (upd (upd (upd (fun _ => 0) 0 (30 : Int32)) 1 (31 : Int32)) 2 (32 : Int32)) 3 (33 : Int32)) 4 (34 : Int32)) 5 (35 : Int32)) 6 (36 : Int32)) 7 (37 : Int32)), rwC r_2 cI 8 (upd (upd (upd (upd (upd (upd (upd (upd (fun _ => 0) 0 (0 : Int32)) 1 (100 : Int32)) 2 (200 : Int32)) 3 (300 : Int32)) 4 (400 : Int32)) 5 (500 : Int32)) 6 (600 : Int32)) 7 (700 : Int32)), rwC r_3 cI 8 (upd (upd (upd (upd (upd (upd (upd (upd (fun _ => 0) 0 (50 : Int32)) 1 (50 : Int32)) 2 (50 : Int32)) 3 (50 : Int32)) 4 (50 : Int32)) 5 (50 : Int32)) 6 (50 : Int32)) 7 (50 : Int32)), rwC r_4 cI 8 (fun _ => 0), rwC r_5 cI 8 (fun _ => 0), rwC r_6 cI 8 (fun _ => 0), rwC r_7 cI 64 (fun _ => 0), rwC r_8 cI 3 (upd (upd (fun _ => 0) 0 (4 : Int32)) 1 (4 : Int32)), rwC r_9 cI 3 (fun _ => 0), rwC r_10 cI 8 (fun _ => 0), rwC r_11 cI 8 (fun _ => 0)].flatten) rfl (fun H locs hP hD hS => ?_)
  refine lv_iinc (v := 2) (k := 0) (lv' := [(1, .int (2 : Int32)), (0, .ref a)]) hx hb dX4_init_163 hl rfl rfl (by decide) rfl (fun ls hl => ?_)
  refine lv_goto (tgt := 151) hx hb dX4_init_166 (by decide) ?_
  refine lv_iload_n hx hb dX4_init_151 rfl (lv_at hl 0 rfl) ?_
  refine lv_iconst (v := 3) hx hb dX4_init_152 (by decide) ?_
  refine nv_ge hx hb 2 3 169 (by decide) (by decide) dX4_init_153 (by decide) (fun c => absurd c (by decide)) (fun _ => ?_)
  refine lv_aload_n hx hb dX4_init_156 rfl (lv_at hl 1 rfl) ?_
  refine va_get (D := G) (ci := 2) (C := RX4) (T := TX4) (N := 15) hx hb hw in_X4 hown hK hP 0 rfl rfl 8 (by decide) (hw _ aw_112) (fun _ h9 => h9) rfl dX4_init_157 ?_
  refine lv_iload_n hx hb dX4_init_160 rfl (lv_at hl 0 rfl) ?_
  refine lv_iconst (v := 4) hx hb dX4_init_161 (by decide) ?_
  refine nv_iast hx hb hK hP hD hS 9 0 rfl rfl 2 (by decide) (by decide) dX4_init_162 (ws' := [[(a, .inr (2, [.ref r_0, .ref r_1, .ref r_2, .ref r_3, .ref r_4, .ref r_5, .ref r_6, .ref r_7, .ref r_8, .ref r_9, .int 0, .int 0, .int 0, .ref r_10, .ref r_11]))], rwC r_0 cI 8 (upd (upd (upd (upd (upd (upd (upd (upd (fun _ => 0) 0 (0 : Int32)) 1 (1 : Int32)) 2 (2 : Int32)) 3 (0 : Int32)) 4 (1 : Int32)) 5 (2 : Int32)) 6 (0 : Int32)) 7 (1 : Int32)), rwC r_1 cI 8 (upd (upd (upd (upd (upd (upd (upd (upd (fun _ => 0) 0 (30 : Int32)) 1 (31 : Int32)) 2 (32 : Int32)) 3 (33 : Int32)) 4 (34 : Int32)) 5 (35 : Int32)) 6 (36 : Int32)) 7 (37 : Int32)), rwC r_2 cI 8 (upd (upd (upd (upd (upd (upd (upd (upd (fun _ => 0) 0 (0 : Int32)) 1 (100 : Int32)) 2 (200 : Int32)) 3 (300 : Int32)) 4 (400 : Int32)) 5 (500 : Int32)) 6 (600 : Int32)) 7 (700 : Int32)), rwC r_3 cI 8 (upd (upd (upd (upd (upd (upd (upd (upd (fun _ => 0) 0 (50 : Int32)) 1 (50 : Int32)) 2 (50 : Int32)) 3 (50 : Int32)) 4 (50 : Int32)) 5 (50 : Int32)) 6 (50 : Int32)) 7 (50 : Int32)), rwC r_4 cI 8 (fun _ => 0), rwC r_5 cI 8 (fun _ => 0), rwC r_6 cI 8 (fun _ => 0), rwC r_7 cI 64 (fun _ => 0), rwC r_8 cI 3 (upd (upd (upd (fun _ => 0) 0 (4 : Int32)) 1 (4 : Int32)) 2 (4 : Int32)), rwC r_9 cI 3 (fun _ => 0), rwC r_10 cI 8 (fun _ => 0), rwC r_11 cI 8 (fun _ => 0)].flatten) rfl (fun H locs hP hD hS => ?_)
  refine lv_iinc (v := 3) (k := 0) (lv' := [(1, .int (3 : Int32)), (0, .ref a)]) hx hb dX4_init_163 hl rfl rfl (by decide) rfl (fun ls hl => ?_)
  refine lv_goto (tgt := 151) hx hb dX4_init_166 (by decide) ?_
  refine lv_iload_n hx hb dX4_init_151 rfl (lv_at hl 0 rfl) ?_
  refine lv_iconst (v := 3) hx hb dX4_init_152 (by decide) ?_
  refine nv_ge hx hb 3 3 169 (by decide) (by decide) dX4_init_153 (by decide) (fun _ => ?_) (fun c => absurd (by decide) c)
  refine lv_aload_n hx hb dX4_init_169 rfl (lv_at hl 1 rfl) ?_
  refine va_get (D := G) (ci := 2) (C := RX4) (T := TX4) (N := 15) hx hb hw in_X4 hown hK hP 0 rfl rfl 9 (by decide) (hw _ aw_114) (fun _ h9 => h9) rfl dX4_init_170 ?_
  refine lv_iconst (v := 0) hx hb dX4_init_173 (by decide) ?_
  refine lv_bipush (v := 9) hx hb dX4_init_174 (by decide) ?_
  refine nv_iast hx hb hK hP hD hS 10 0 rfl rfl 0 (by decide) (by decide) dX4_init_176 (ws' := [[(a, .inr (2, [.ref r_0, .ref r_1, .ref r_2, .ref r_3, .ref r_4, .ref r_5, .ref r_6, .ref r_7, .ref r_8, .ref r_9, .int 0, .int 0, .int 0, .ref r_10, .ref r_11]))], rwC r_0 cI 8 (upd (upd (upd (upd (upd (upd (upd (upd (fun _ => 0) 0 (0 : Int32)) 1 (1 : Int32)) 2 (2 : Int32)) 3 (0 : Int32)) 4 (1 : Int32)) 5 (2 : Int32)) 6 (0 : Int32)) 7 (1 : Int32)), rwC r_1 cI 8 (upd (upd (upd (upd (upd (upd (upd (upd (fun _ => 0) 0 (30 : Int32)) 1 (31 : Int32)) 2 (32 : Int32)) 3 (33 : Int32)) 4 (34 : Int32)) 5 (35 : Int32)) 6 (36 : Int32)) 7 (37 : Int32)), rwC r_2 cI 8 (upd (upd (upd (upd (upd (upd (upd (upd (fun _ => 0) 0 (0 : Int32)) 1 (100 : Int32)) 2 (200 : Int32)) 3 (300 : Int32)) 4 (400 : Int32)) 5 (500 : Int32)) 6 (600 : Int32)) 7 (700 : Int32)), rwC r_3 cI 8 (upd (upd (upd (upd (upd (upd (upd (upd (fun _ => 0) 0 (50 : Int32)) 1 (50 : Int32)) 2 (50 : Int32)) 3 (50 : Int32)) 4 (50 : Int32)) 5 (50 : Int32)) 6 (50 : Int32)) 7 (50 : Int32)), rwC r_4 cI 8 (fun _ => 0), rwC r_5 cI 8 (fun _ => 0), rwC r_6 cI 8 (fun _ => 0), rwC r_7 cI 64 (fun _ => 0), rwC r_8 cI 3 (upd (upd (upd (fun _ => 0) 0 (4 : Int32)) 1 (4 : Int32)) 2 (4 : Int32)), rwC r_9 cI 3 (upd (fun _ => 0) 0 (9 : Int32)), rwC r_10 cI 8 (fun _ => 0), rwC r_11 cI 8 (fun _ => 0)].flatten) rfl (fun H locs hP hD hS => ?_)
  refine lv_aload_n hx hb dX4_init_177 rfl (lv_at hl 1 rfl) ?_
  refine va_get (D := G) (ci := 2) (C := RX4) (T := TX4) (N := 15) hx hb hw in_X4 hown hK hP 0 rfl rfl 9 (by decide) (hw _ aw_114) (fun _ h9 => h9) rfl dX4_init_178 ?_
  refine lv_iconst (v := 1) hx hb dX4_init_181 (by decide) ?_
  refine lv_bipush (v := 40) hx hb dX4_init_182 (by decide) ?_
  refine nv_iast hx hb hK hP hD hS 10 0 rfl rfl 1 (by decide) (by decide) dX4_init_184 (ws' := [[(a, .inr (2, [.ref r_0, .ref r_1, .ref r_2, .ref r_3, .ref r_4, .ref r_5, .ref r_6, .ref r_7, .ref r_8, .ref r_9, .int 0, .int 0, .int 0, .ref r_10, .ref r_11]))], rwC r_0 cI 8 (upd (upd (upd (upd (upd (upd (upd (upd (fun _ => 0) 0 (0 : Int32)) 1 (1 : Int32)) 2 (2 : Int32)) 3 (0 : Int32)) 4 (1 : Int32)) 5 (2 : Int32)) 6 (0 : Int32)) 7 (1 : Int32)), rwC r_1 cI 8 (upd (upd (upd (upd (upd (upd (upd (upd (fun _ => 0) 0 (30 : Int32)) 1 (31 : Int32)) 2 (32 : Int32)) 3 (33 : Int32)) 4 (34 : Int32)) 5 (35 : Int32)) 6 (36 : Int32)) 7 (37 : Int32)), rwC r_2 cI 8 (upd (upd (upd (upd (upd (upd (upd (upd (fun _ => 0) 0 (0 : Int32)) 1 (100 : Int32)) 2 (200 : Int32)) 3 (300 : Int32)) 4 (400 : Int32)) 5 (500 : Int32)) 6 (600 : Int32)) 7 (700 : Int32)), rwC r_3 cI 8 (upd (upd (upd (upd (upd (upd (upd (upd (fun _ => 0) 0 (50 : Int32)) 1 (50 : Int32)) 2 (50 : Int32)) 3 (50 : Int32)) 4 (50 : Int32)) 5 (50 : Int32)) 6 (50 : Int32)) 7 (50 : Int32)), rwC r_4 cI 8 (fun _ => 0), rwC r_5 cI 8 (fun _ => 0), rwC r_6 cI 8 (fun _ => 0), rwC r_7 cI 64 (fun _ => 0), rwC r_8 cI 3 (upd (upd (upd (fun _ => 0) 0 (4 : Int32)) 1 (4 : Int32)) 2 (4 : Int32)), rwC r_9 cI 3 (upd (upd (fun _ => 0) 0 (9 : Int32)) 1 (40 : Int32)), rwC r_10 cI 8 (fun _ => 0), rwC r_11 cI 8 (fun _ => 0)].flatten) rfl (fun H locs hP hD hS => ?_)
  refine lv_aload_n hx hb dX4_init_185 rfl (lv_at hl 1 rfl) ?_
  refine va_get (D := G) (ci := 2) (C := RX4) (T := TX4) (N := 15) hx hb hw in_X4 hown hK hP 0 rfl rfl 9 (by decide) (hw _ aw_114) (fun _ h9 => h9) rfl dX4_init_186 ?_
  refine lv_iconst (v := 2) hx hb dX4_init_189 (by decide) ?_
  refine lv_bipush (v := 8) hx hb dX4_init_190 (by decide) ?_
  refine nv_iast hx hb hK hP hD hS 10 0 rfl rfl 2 (by decide) (by decide) dX4_init_192 (ws' := [[(a, .inr (2, [.ref r_0, .ref r_1, .ref r_2, .ref r_3, .ref r_4, .ref r_5, .ref r_6, .ref r_7, .ref r_8, .ref r_9, .int 0, .int 0, .int 0, .ref r_10, .ref r_11]))], rwC r_0 cI 8 (upd (upd (upd (upd (upd (upd (upd (upd (fun _ => 0) 0 (0 : Int32)) 1 (1 : Int32)) 2 (2 : Int32)) 3 (0 : Int32)) 4 (1 : Int32)) 5 (2 : Int32)) 6 (0 : Int32)) 7 (1 : Int32)), rwC r_1 cI 8 (upd (upd (upd (upd (upd (upd (upd (upd (fun _ => 0) 0 (30 : Int32)) 1 (31 : Int32)) 2 (32 : Int32)) 3 (33 : Int32)) 4 (34 : Int32)) 5 (35 : Int32)) 6 (36 : Int32)) 7 (37 : Int32)), rwC r_2 cI 8 (upd (upd (upd (upd (upd (upd (upd (upd (fun _ => 0) 0 (0 : Int32)) 1 (100 : Int32)) 2 (200 : Int32)) 3 (300 : Int32)) 4 (400 : Int32)) 5 (500 : Int32)) 6 (600 : Int32)) 7 (700 : Int32)), rwC r_3 cI 8 (upd (upd (upd (upd (upd (upd (upd (upd (fun _ => 0) 0 (50 : Int32)) 1 (50 : Int32)) 2 (50 : Int32)) 3 (50 : Int32)) 4 (50 : Int32)) 5 (50 : Int32)) 6 (50 : Int32)) 7 (50 : Int32)), rwC r_4 cI 8 (fun _ => 0), rwC r_5 cI 8 (fun _ => 0), rwC r_6 cI 8 (fun _ => 0), rwC r_7 cI 64 (fun _ => 0), rwC r_8 cI 3 (upd (upd (upd (fun _ => 0) 0 (4 : Int32)) 1 (4 : Int32)) 2 (4 : Int32)), rwC r_9 cI 3 (upd (upd (upd (fun _ => 0) 0 (9 : Int32)) 1 (40 : Int32)) 2 (8 : Int32)), rwC r_10 cI 8 (fun _ => 0), rwC r_11 cI 8 (fun _ => 0)].flatten) rfl (fun H locs hP hD hS => ?_)
  exact W.vret hx hb hr (ct_endN (wf := fun x : List Nat => stC (nth (a :: x)) cI iS_beams iS_speeds iS_phases iS_springs iS_strikes iS_ways iS_kickSums iS_nearTicks iS_gives iS_settings 0 0 0 iS_pulls iS_leaders) [r_0, r_1, r_2, r_3, r_4, r_5, r_6, r_7, r_8, r_9, r_10, r_11] hP hD hS) hS.2.2 dX4_init_193
set_option maxRecDepth 100000 in
set_option maxHeartbeats 8000000 in
theorem k_X3_init (l : Launch) (G : va_G) (cI cS cL : ClassId) (ad : Nat → Nat) (mp : Nat) (a : Nat) : CtN l G (tyl cI cS cL) ad mp yX3_init cX3_init 1 1 20 1 60 [.ref a] [[(a, .inr (1, [.null, .int 0, .null, .int 0, .int 0, .int 0, .int 0]))]].flatten (fun x : List Nat => txC (nth (a :: x)) cI ad (fun _ => 0) 0 0 0 0 false 0) := by
  refine CtN.of (by decide +kernel) (Nat.le_of_ble_eq_true rfl) ?_
  intro p e s m args below meth c A ls hx hb hr hml hw hown hlocks hin hK hN hE hP hD hS hA hl
  have hown : s.vm.findClass RX3 = some m.cls := hown
  have X : Cx p s m args c cX3_init 1 RX3 G (tyl cI cS cL) := ⟨hx, hb, hml, hown, hw, hK, hN⟩
  have hP : va_P G classes [[(a, .inr (1, [.null, .int 0, .null, .int 0, .int 0, .int 0, .int 0]))]].flatten s.heap := hP
  have hl : lv_has ls 1 [(0, .ref a)] := hl
  refine lv_aload_n hx hb dX3_init_0 rfl (lv_at hl 0 rfl) ?_
  refine W.objInit hx hb hown (hw _ aw_176) (hw _ aw_92) (hw _ aw_93) rfl (by rw [hml]; exact hl.1) rfl dX3_init_1 (Nat.le_of_ble_eq_true rfl) (Nat.le_of_ble_eq_true rfl) ?_
  refine W.eq (g2 := F0 m 4 ls []) rfl ?_
  refine lv_aload_n hx hb dX3_init_4 rfl (lv_at hl 0 rfl) ?_
  refine lv_bipush (v := 60) hx hb dX3_init_5 (by decide) ?_
  refine cn_newi X hP hD hS hA 60 (by decide) (by decide) (by decide) (Nat.le_of_ble_eq_true rfl) (Nat.le_of_ble_eq_true rfl) dX3_init_7 (fun r_0 H hP hD hS => ?_)
  have hP : va_P G classes [[(a, .inr (1, [.null, .int 0, .null, .int 0, .int 0, .int 0, .int 0]))], rwC r_0 cI 60 (fun _ => 0)].flatten H := hP
  have hD : va_D A [[(a, .inr (1, [.null, .int 0, .null, .int 0, .int 0, .int 0, .int 0]))], rwC r_0 cI 60 (fun _ => 0)].flatten := hD
  refine nv_putF (D := G) (ci := 1) (ty := (.array .int)) (v := .ref r_0) (C := RX3) (T := TX3) (N := 7) hx hb hw in_X3 tyX3 tyX3_ok nmX3 hown hK hP hD hS 0 rfl rfl 0 (by decide) (hw _ aw_179) (fun _ h9 => h9) rfl (by rw [hin]; rfl) rfl (by decide +kernel) rfl rfl (Nat.le_of_ble_eq_true rfl) dX3_init_9 (ws' := [[(a, .inr (1, [.ref r_0, .int 0, .null, .int 0, .int 0, .int 0, .int 0]))], rwC r_0 cI 60 (fun _ => 0)].flatten) rfl (fun H locs hP hD hS => ?_)
  refine lv_aload_n hx hb dX3_init_12 rfl (lv_at hl 0 rfl) ?_
  refine nv_gets hE X hS 0 (by decide) rfl aw_177 dX3_init_13 ?_
  refine nv_put (D := G) (ci := 1) (ty := (.object "TandemClocks$Due")) (v := .ref (ad 0)) (C := RX3) (T := TX3) (N := 7) hx hb hw in_X3 tyX3 tyX3_ok nmX3 hown hK hP hD hS 0 rfl rfl 2 (by decide) (hw _ aw_182) (fun _ h9 => h9) rfl (by decide +kernel) rfl rfl (Nat.le_of_ble_eq_true rfl) dX3_init_16 (ws' := [[(a, .inr (1, [.ref r_0, .int 0, .ref (ad 0), .int 0, .int 0, .int 0, .int 0]))], rwC r_0 cI 60 (fun _ => 0)].flatten) rfl (fun H locs hP hD hS => ?_)
  exact W.vret hx hb hr (ct_endN (wf := fun x : List Nat => txC (nth (a :: x)) cI ad (fun _ => 0) 0 0 0 0 false 0) [r_0] hP hD hS) hS.2.2 dX3_init_19
set_option maxRecDepth 100000 in
set_option maxHeartbeats 8000000 in
theorem k_X2_init (l : Launch) (G : va_G) (cI cS cL : ClassId) (ad : Nat → Nat) (mp : Nat) (a : Nat) : CtN l G (tyl cI cS cL) ad mp yX2_init cX2_init 2 2 41 79 948 [.ref a] [[(a, .inr (0, [.null, .int 0]))]].flatten (fun x : List Nat × List (List Nat) => hbC (nth (a :: x.1)) cI cS 0 (nths x.2) (fun _ => iSt)) := by
  refine CtN.of (by decide +kernel) (Nat.le_of_ble_eq_true rfl) ?_
  intro p e s m args below meth c A ls hx hb hr hml hw hown hlocks hin hK hN hE hP hD hS hA hl
  have hown : s.vm.findClass RX2 = some m.cls := hown
  have X : Cx p s m args c cX2_init 2 RX2 G (tyl cI cS cL) := ⟨hx, hb, hml, hown, hw, hK, hN⟩
  have hP : va_P G classes [[(a, .inr (0, [.null, .int 0]))]].flatten s.heap := hP
  have hl : lv_has ls 2 [(0, .ref a)] := hl
  refine lv_aload_n hx hb dX2_init_0 rfl (lv_at hl 0 rfl) ?_
  refine W.objInit hx hb hown (hw _ aw_159) (hw _ aw_92) (hw _ aw_93) rfl (by rw [hml]; exact hl.1) rfl dX2_init_1 (Nat.le_of_ble_eq_true rfl) (Nat.le_of_ble_eq_true rfl) ?_
  refine W.eq (g2 := F0 m 4 ls []) rfl ?_
  refine lv_aload_n hx hb dX2_init_4 rfl (lv_at hl 0 rfl) ?_
  refine lv_bipush (v := 6) hx hb dX2_init_5 (by decide) ?_
  refine cn_news X hP hD hS hA aw_160 6 (by decide) (by decide) (by decide) (Nat.le_of_ble_eq_true rfl) (Nat.le_of_ble_eq_true rfl) dX2_init_7 (fun r_0 H hP hD hS => ?_)
  have hP : va_P G classes [[(a, .inr (0, [.null, .int 0]))], [(r_0, .inl (cS, 6, .inr (.inr (.inr (.inr (fun _ => none))))))]].flatten H := hP
  have hD : va_D A [[(a, .inr (0, [.null, .int 0]))], [(r_0, .inl (cS, 6, .inr (.inr (.inr (.inr (fun _ => none))))))]].flatten := hD
  refine nv_putF (D := G) (ci := 0) (ty := (.array (.object RX4))) (v := .ref r_0) (C := RX2) (T := TX2) (N := 2) hx hb hw in_X2 tyX2 tyX2_ok nmX2 hown hK hP hD hS 0 rfl rfl 0 (by decide) (hw _ aw_163) (fun _ h9 => h9) rfl (by rw [hin]; rfl) rfl (by decide +kernel) rfl rfl (Nat.le_of_ble_eq_true rfl) dX2_init_10 (ws' := [[(a, .inr (0, [.ref r_0, .int 0]))], [(r_0, .inl (cS, 6, .inr (.inr (.inr (.inr (fun _ => none))))))]].flatten) rfl (fun H locs hP hD hS => ?_)
  refine lv_iconst (v := 0) hx hb dX2_init_13 (by decide) ?_
  refine lv_istore_n (lv' := [(1, .int (0 : Int32)), (0, .ref a)]) hx hb dX2_init_14 rfl hl (by decide) rfl (fun ls hl => ?_)
  refine lv_iload_n hx hb dX2_init_15 rfl (lv_at hl 0 rfl) ?_
  refine lv_bipush (v := 6) hx hb dX2_init_16 (by decide) ?_
  refine nv_ge hx hb 0 6 40 (by decide) (by decide) dX2_init_18 (by decide) (fun c => absurd c (by decide)) (fun _ => ?_)
  refine lv_aload_n hx hb dX2_init_21 rfl (lv_at hl 1 rfl) ?_
  refine va_get (D := G) (ci := 0) (C := RX2) (T := TX2) (N := 2) hx hb hw in_X2 hown hK hP 0 rfl rfl 0 (by decide) (hw _ aw_163) (fun _ h9 => h9) rfl dX2_init_22 ?_
  refine lv_iload_n hx hb dX2_init_25 rfl (lv_at hl 0 rfl) ?_
  refine va_new (ci := 2) (fs := [.null, .null, .null, .null, .null, .null, .null, .null, .null, .null, .int 0, .int 0, .int 0, .null, .null]) (C := RX4) (T := TX4) (N := 15) hx hb hw in_X4 tyX4 tyX4_ok hown (hw _ aw_160) (hw _ aw_95) (hw _ aw_68) hK hP hD hS hA rfl (by decide) (Nat.le_of_ble_eq_true rfl) (Nat.le_of_ble_eq_true rfl) dX2_init_26 (fun r_1 H hP hD hS => ?_)
  have hP : va_P G classes [[(a, .inr (0, [.ref r_0, .int 0]))], [(r_0, .inl (cS, 6, .inr (.inr (.inr (.inr (fun _ => none))))))], [(r_1, .inr (2, [.null, .null, .null, .null, .null, .null, .null, .null, .null, .null, .int 0, .int 0, .int 0, .null, .null]))]].flatten H := hP
  have hD : va_D A [[(a, .inr (0, [.ref r_0, .int 0]))], [(r_0, .inl (cS, 6, .inr (.inr (.inr (.inr (fun _ => none))))))], [(r_1, .inr (2, [.null, .null, .null, .null, .null, .null, .null, .null, .null, .null, .int 0, .int 0, .int 0, .null, .null]))]].flatten := hD
  refine lv_dup hx hb dX2_init_29 rfl ?_
  refine cn_callI hE X hP hD hS hA (k_X4_init l G cI cS cL ad mp r_1) ci_X4_init aw_162 ⟨Nat.le_of_ble_eq_true rfl, Nat.le_of_ble_eq_true rfl⟩ [2] (cs := [[(r_1, .inr (2, [.null, .null, .null, .null, .null, .null, .null, .null, .null, .null, .int 0, .int 0, .int 0, .null, .null]))]]) rfl (by decide) (fun x_2 => [stC (nth (r_1 :: x_2)) cI iS_beams iS_speeds iS_phases iS_springs iS_strikes iS_ways iS_kickSums iS_nearTicks iS_gives iS_settings 0 0 0 iS_pulls iS_leaders]) (fun _ => rfl) (fun _ => rfl) hl.1 rfl (Nat.le_of_ble_eq_true rfl) dX2_init_30 ⟨Nat.le_of_ble_eq_true rfl, Nat.le_of_ble_eq_true rfl⟩ (bs' := fun x_2 => [[(a, .inr (0, [.ref r_0, .int 0]))], [(r_0, .inl (cS, 6, .inr (.inr (.inr (.inr (fun _ => none))))))], stC (nth (r_1 :: x_2)) cI iS_beams iS_speeds iS_phases iS_springs iS_strikes iS_ways iS_kickSums iS_nearTicks iS_gives iS_settings 0 0 0 iS_pulls iS_leaders]) (fun _ => rfl) (fun x_2 H locs hP hD hS => ?_)
  refine nv_aast hx hb hK hP hD hS 1 1 2 2 rfl rfl rfl rfl 0 (by decide) (by decide) dX2_init_33 (f' := va_up (fun _ => none) 0 (some r_1)) (fun _ _ => rfl) (ws' := [[(a, .inr (0, [.ref r_0, .int 0]))], [(r_0, .inl (cS, 6, .inr (.inr (.inr (.inr (va_up (fun _ => none) 0 (some r_1)))))))], stC (nth (r_1 :: x_2)) cI iS_beams iS_speeds iS_phases iS_springs iS_strikes iS_ways iS_kickSums iS_nearTicks iS_gives iS_settings 0 0 0 iS_pulls iS_leaders].flatten) rfl (fun H locs hP hD hS => ?_)
  refine lv_iinc (v := 1) (k := 0) (lv' := [(1, .int (1 : Int32)), (0, .ref a)]) hx hb dX2_init_34 hl rfl rfl (by decide) rfl (fun ls hl => ?_)
  refine lv_goto (tgt := 15) hx hb dX2_init_37 (by decide) ?_
  refine lv_iload_n hx hb dX2_init_15 rfl (lv_at hl 0 rfl) ?_
  refine lv_bipush (v := 6) hx hb dX2_init_16 (by decide) ?_
  refine nv_ge hx hb 1 6 40 (by decide) (by decide) dX2_init_18 (by decide) (fun c => absurd c (by decide)) (fun _ => ?_)
  refine lv_aload_n hx hb dX2_init_21 rfl (lv_at hl 1 rfl) ?_
  refine va_get (D := G) (ci := 0) (C := RX2) (T := TX2) (N := 2) hx hb hw in_X2 hown hK hP 0 rfl rfl 0 (by decide) (hw _ aw_163) (fun _ h9 => h9) rfl dX2_init_22 ?_
  refine lv_iload_n hx hb dX2_init_25 rfl (lv_at hl 0 rfl) ?_
  refine va_new (ci := 2) (fs := [.null, .null, .null, .null, .null, .null, .null, .null, .null, .null, .int 0, .int 0, .int 0, .null, .null]) (C := RX4) (T := TX4) (N := 15) hx hb hw in_X4 tyX4 tyX4_ok hown (hw _ aw_160) (hw _ aw_95) (hw _ aw_68) hK hP hD hS hA rfl (by decide) (Nat.le_of_ble_eq_true rfl) (Nat.le_of_ble_eq_true rfl) dX2_init_26 (fun r_3 H hP hD hS => ?_)
  have hP : va_P G classes [[(a, .inr (0, [.ref r_0, .int 0]))], [(r_0, .inl (cS, 6, .inr (.inr (.inr (.inr (va_up (fun _ => none) 0 (some r_1)))))))], stC (nth (r_1 :: x_2)) cI iS_beams iS_speeds iS_phases iS_springs iS_strikes iS_ways iS_kickSums iS_nearTicks iS_gives iS_settings 0 0 0 iS_pulls iS_leaders, [(r_3, .inr (2, [.null, .null, .null, .null, .null, .null, .null, .null, .null, .null, .int 0, .int 0, .int 0, .null, .null]))]].flatten H := hP
  have hD : va_D A [[(a, .inr (0, [.ref r_0, .int 0]))], [(r_0, .inl (cS, 6, .inr (.inr (.inr (.inr (va_up (fun _ => none) 0 (some r_1)))))))], stC (nth (r_1 :: x_2)) cI iS_beams iS_speeds iS_phases iS_springs iS_strikes iS_ways iS_kickSums iS_nearTicks iS_gives iS_settings 0 0 0 iS_pulls iS_leaders, [(r_3, .inr (2, [.null, .null, .null, .null, .null, .null, .null, .null, .null, .null, .int 0, .int 0, .int 0, .null, .null]))]].flatten := hD
  refine lv_dup hx hb dX2_init_29 rfl ?_
  refine cn_callI hE X hP hD hS hA (k_X4_init l G cI cS cL ad mp r_3) ci_X4_init aw_162 ⟨Nat.le_of_ble_eq_true rfl, Nat.le_of_ble_eq_true rfl⟩ [3] (cs := [[(r_3, .inr (2, [.null, .null, .null, .null, .null, .null, .null, .null, .null, .null, .int 0, .int 0, .int 0, .null, .null]))]]) rfl (by decide) (fun x_4 => [stC (nth (r_3 :: x_4)) cI iS_beams iS_speeds iS_phases iS_springs iS_strikes iS_ways iS_kickSums iS_nearTicks iS_gives iS_settings 0 0 0 iS_pulls iS_leaders]) (fun _ => rfl) (fun _ => rfl) hl.1 rfl (Nat.le_of_ble_eq_true rfl) dX2_init_30 ⟨Nat.le_of_ble_eq_true rfl, Nat.le_of_ble_eq_true rfl⟩ (bs' := fun x_4 => [[(a, .inr (0, [.ref r_0, .int 0]))], [(r_0, .inl (cS, 6, .inr (.inr (.inr (.inr (va_up (fun _ => none) 0 (some r_1)))))))], stC (nth (r_1 :: x_2)) cI iS_beams iS_speeds iS_phases iS_springs iS_strikes iS_ways iS_kickSums iS_nearTicks iS_gives iS_settings 0 0 0 iS_pulls iS_leaders, stC (nth (r_3 :: x_4)) cI iS_beams iS_speeds iS_phases iS_springs iS_strikes iS_ways iS_kickSums iS_nearTicks iS_gives iS_settings 0 0 0 iS_pulls iS_leaders]) (fun _ => rfl) (fun x_4 H locs hP hD hS => ?_)
  refine nv_aast hx hb hK hP hD hS 1 1 15 2 rfl rfl rfl rfl 1 (by decide) (by decide) dX2_init_33 (f' := va_up (va_up (fun _ => none) 0 (some r_1)) 1 (some r_3)) (fun _ _ => rfl) (ws' := [[(a, .inr (0, [.ref r_0, .int 0]))], [(r_0, .inl (cS, 6, .inr (.inr (.inr (.inr (va_up (va_up (fun _ => none) 0 (some r_1)) 1 (some r_3)))))))], stC (nth (r_1 :: x_2)) cI iS_beams iS_speeds iS_phases iS_springs iS_strikes iS_ways iS_kickSums iS_nearTicks iS_gives iS_settings 0 0 0 iS_pulls iS_leaders, stC (nth (r_3 :: x_4)) cI iS_beams iS_speeds iS_phases iS_springs iS_strikes iS_ways iS_kickSums iS_nearTicks iS_gives iS_settings 0 0 0 iS_pulls iS_leaders].flatten) rfl (fun H locs hP hD hS => ?_)
  refine lv_iinc (v := 2) (k := 0) (lv' := [(1, .int (2 : Int32)), (0, .ref a)]) hx hb dX2_init_34 hl rfl rfl (by decide) rfl (fun ls hl => ?_)
  refine lv_goto (tgt := 15) hx hb dX2_init_37 (by decide) ?_
  refine lv_iload_n hx hb dX2_init_15 rfl (lv_at hl 0 rfl) ?_
  refine lv_bipush (v := 6) hx hb dX2_init_16 (by decide) ?_
  refine nv_ge hx hb 2 6 40 (by decide) (by decide) dX2_init_18 (by decide) (fun c => absurd c (by decide)) (fun _ => ?_)
  refine lv_aload_n hx hb dX2_init_21 rfl (lv_at hl 1 rfl) ?_
  refine va_get (D := G) (ci := 0) (C := RX2) (T := TX2) (N := 2) hx hb hw in_X2 hown hK hP 0 rfl rfl 0 (by decide) (hw _ aw_163) (fun _ h9 => h9) rfl dX2_init_22 ?_
  refine lv_iload_n hx hb dX2_init_25 rfl (lv_at hl 0 rfl) ?_
  refine va_new (ci := 2) (fs := [.null, .null, .null, .null, .null, .null, .null, .null, .null, .null, .int 0, .int 0, .int 0, .null, .null]) (C := RX4) (T := TX4) (N := 15) hx hb hw in_X4 tyX4 tyX4_ok hown (hw _ aw_160) (hw _ aw_95) (hw _ aw_68) hK hP hD hS hA rfl (by decide) (Nat.le_of_ble_eq_true rfl) (Nat.le_of_ble_eq_true rfl) dX2_init_26 (fun r_5 H hP hD hS => ?_)
  have hP : va_P G classes [[(a, .inr (0, [.ref r_0, .int 0]))], [(r_0, .inl (cS, 6, .inr (.inr (.inr (.inr (va_up (va_up (fun _ => none) 0 (some r_1)) 1 (some r_3)))))))], stC (nth (r_1 :: x_2)) cI iS_beams iS_speeds iS_phases iS_springs iS_strikes iS_ways iS_kickSums iS_nearTicks iS_gives iS_settings 0 0 0 iS_pulls iS_leaders, stC (nth (r_3 :: x_4)) cI iS_beams iS_speeds iS_phases iS_springs iS_strikes iS_ways iS_kickSums iS_nearTicks iS_gives iS_settings 0 0 0 iS_pulls iS_leaders, [(r_5, .inr (2, [.null, .null, .null, .null, .null, .null, .null, .null, .null, .null, .int 0, .int 0, .int 0, .null, .null]))]].flatten H := hP
  have hD : va_D A [[(a, .inr (0, [.ref r_0, .int 0]))], [(r_0, .inl (cS, 6, .inr (.inr (.inr (.inr (va_up (va_up (fun _ => none) 0 (some r_1)) 1 (some r_3)))))))], stC (nth (r_1 :: x_2)) cI iS_beams iS_speeds iS_phases iS_springs iS_strikes iS_ways iS_kickSums iS_nearTicks iS_gives iS_settings 0 0 0 iS_pulls iS_leaders, stC (nth (r_3 :: x_4)) cI iS_beams iS_speeds iS_phases iS_springs iS_strikes iS_ways iS_kickSums iS_nearTicks iS_gives iS_settings 0 0 0 iS_pulls iS_leaders, [(r_5, .inr (2, [.null, .null, .null, .null, .null, .null, .null, .null, .null, .null, .int 0, .int 0, .int 0, .null, .null]))]].flatten := hD
  refine lv_dup hx hb dX2_init_29 rfl ?_
  refine cn_callI hE X hP hD hS hA (k_X4_init l G cI cS cL ad mp r_5) ci_X4_init aw_162 ⟨Nat.le_of_ble_eq_true rfl, Nat.le_of_ble_eq_true rfl⟩ [4] (cs := [[(r_5, .inr (2, [.null, .null, .null, .null, .null, .null, .null, .null, .null, .null, .int 0, .int 0, .int 0, .null, .null]))]]) rfl (by decide) (fun x_6 => [stC (nth (r_5 :: x_6)) cI iS_beams iS_speeds iS_phases iS_springs iS_strikes iS_ways iS_kickSums iS_nearTicks iS_gives iS_settings 0 0 0 iS_pulls iS_leaders]) (fun _ => rfl) (fun _ => rfl) hl.1 rfl (Nat.le_of_ble_eq_true rfl) dX2_init_30 ⟨Nat.le_of_ble_eq_true rfl, Nat.le_of_ble_eq_true rfl⟩ (bs' := fun x_6 => [[(a, .inr (0, [.ref r_0, .int 0]))], [(r_0, .inl (cS, 6, .inr (.inr (.inr (.inr (va_up (va_up (fun _ => none) 0 (some r_1)) 1 (some r_3)))))))], stC (nth (r_1 :: x_2)) cI iS_beams iS_speeds iS_phases iS_springs iS_strikes iS_ways iS_kickSums iS_nearTicks iS_gives iS_settings 0 0 0 iS_pulls iS_leaders, stC (nth (r_3 :: x_4)) cI iS_beams iS_speeds iS_phases iS_springs iS_strikes iS_ways iS_kickSums iS_nearTicks iS_gives iS_settings 0 0 0 iS_pulls iS_leaders, stC (nth (r_5 :: x_6)) cI iS_beams iS_speeds iS_phases iS_springs iS_strikes iS_ways iS_kickSums iS_nearTicks iS_gives iS_settings 0 0 0 iS_pulls iS_leaders]) (fun _ => rfl) (fun x_6 H locs hP hD hS => ?_)
  refine nv_aast hx hb hK hP hD hS 1 1 28 2 rfl rfl rfl rfl 2 (by decide) (by decide) dX2_init_33 (f' := va_up (va_up (va_up (fun _ => none) 0 (some r_1)) 1 (some r_3)) 2 (some r_5)) (fun _ _ => rfl) (ws' := [[(a, .inr (0, [.ref r_0, .int 0]))], [(r_0, .inl (cS, 6, .inr (.inr (.inr (.inr (va_up (va_up (va_up (fun _ => none) 0 (some r_1)) 1 (some r_3)) 2 (some r_5)))))))], stC (nth (r_1 :: x_2)) cI iS_beams iS_speeds iS_phases iS_springs iS_strikes iS_ways iS_kickSums iS_nearTicks iS_gives iS_settings 0 0 0 iS_pulls iS_leaders, stC (nth (r_3 :: x_4)) cI iS_beams iS_speeds iS_phases iS_springs iS_strikes iS_ways iS_kickSums iS_nearTicks iS_gives iS_settings 0 0 0 iS_pulls iS_leaders, stC (nth (r_5 :: x_6)) cI iS_beams iS_speeds iS_phases iS_springs iS_strikes iS_ways iS_kickSums iS_nearTicks iS_gives iS_settings 0 0 0 iS_pulls iS_leaders].flatten) rfl (fun H locs hP hD hS => ?_)
  refine lv_iinc (v := 3) (k := 0) (lv' := [(1, .int (3 : Int32)), (0, .ref a)]) hx hb dX2_init_34 hl rfl rfl (by decide) rfl (fun ls hl => ?_)
  refine lv_goto (tgt := 15) hx hb dX2_init_37 (by decide) ?_
  refine lv_iload_n hx hb dX2_init_15 rfl (lv_at hl 0 rfl) ?_
  refine lv_bipush (v := 6) hx hb dX2_init_16 (by decide) ?_
  refine nv_ge hx hb 3 6 40 (by decide) (by decide) dX2_init_18 (by decide) (fun c => absurd c (by decide)) (fun _ => ?_)
  refine lv_aload_n hx hb dX2_init_21 rfl (lv_at hl 1 rfl) ?_
  refine va_get (D := G) (ci := 0) (C := RX2) (T := TX2) (N := 2) hx hb hw in_X2 hown hK hP 0 rfl rfl 0 (by decide) (hw _ aw_163) (fun _ h9 => h9) rfl dX2_init_22 ?_
  refine lv_iload_n hx hb dX2_init_25 rfl (lv_at hl 0 rfl) ?_
  refine va_new (ci := 2) (fs := [.null, .null, .null, .null, .null, .null, .null, .null, .null, .null, .int 0, .int 0, .int 0, .null, .null]) (C := RX4) (T := TX4) (N := 15) hx hb hw in_X4 tyX4 tyX4_ok hown (hw _ aw_160) (hw _ aw_95) (hw _ aw_68) hK hP hD hS hA rfl (by decide) (Nat.le_of_ble_eq_true rfl) (Nat.le_of_ble_eq_true rfl) dX2_init_26 (fun r_7 H hP hD hS => ?_)
  have hP : va_P G classes [[(a, .inr (0, [.ref r_0, .int 0]))], [(r_0, .inl (cS, 6, .inr (.inr (.inr (.inr (va_up (va_up (va_up (fun _ => none) 0 (some r_1)) 1 (some r_3)) 2 (some r_5)))))))], stC (nth (r_1 :: x_2)) cI iS_beams iS_speeds iS_phases iS_springs iS_strikes iS_ways iS_kickSums iS_nearTicks iS_gives iS_settings 0 0 0 iS_pulls iS_leaders, stC (nth (r_3 :: x_4)) cI iS_beams iS_speeds iS_phases iS_springs iS_strikes iS_ways iS_kickSums iS_nearTicks iS_gives iS_settings 0 0 0 iS_pulls iS_leaders, stC (nth (r_5 :: x_6)) cI iS_beams iS_speeds iS_phases iS_springs iS_strikes iS_ways iS_kickSums iS_nearTicks iS_gives iS_settings 0 0 0 iS_pulls iS_leaders, [(r_7, .inr (2, [.null, .null, .null, .null, .null, .null, .null, .null, .null, .null, .int 0, .int 0, .int 0, .null, .null]))]].flatten H := hP
  have hD : va_D A [[(a, .inr (0, [.ref r_0, .int 0]))], [(r_0, .inl (cS, 6, .inr (.inr (.inr (.inr (va_up (va_up (va_up (fun _ => none) 0 (some r_1)) 1 (some r_3)) 2 (some r_5)))))))], stC (nth (r_1 :: x_2)) cI iS_beams iS_speeds iS_phases iS_springs iS_strikes iS_ways iS_kickSums iS_nearTicks iS_gives iS_settings 0 0 0 iS_pulls iS_leaders, stC (nth (r_3 :: x_4)) cI iS_beams iS_speeds iS_phases iS_springs iS_strikes iS_ways iS_kickSums iS_nearTicks iS_gives iS_settings 0 0 0 iS_pulls iS_leaders, stC (nth (r_5 :: x_6)) cI iS_beams iS_speeds iS_phases iS_springs iS_strikes iS_ways iS_kickSums iS_nearTicks iS_gives iS_settings 0 0 0 iS_pulls iS_leaders, [(r_7, .inr (2, [.null, .null, .null, .null, .null, .null, .null, .null, .null, .null, .int 0, .int 0, .int 0, .null, .null]))]].flatten := hD
  refine lv_dup hx hb dX2_init_29 rfl ?_
  refine cn_callI hE X hP hD hS hA (k_X4_init l G cI cS cL ad mp r_7) ci_X4_init aw_162 ⟨Nat.le_of_ble_eq_true rfl, Nat.le_of_ble_eq_true rfl⟩ [5] (cs := [[(r_7, .inr (2, [.null, .null, .null, .null, .null, .null, .null, .null, .null, .null, .int 0, .int 0, .int 0, .null, .null]))]]) rfl (by decide) (fun x_8 => [stC (nth (r_7 :: x_8)) cI iS_beams iS_speeds iS_phases iS_springs iS_strikes iS_ways iS_kickSums iS_nearTicks iS_gives iS_settings 0 0 0 iS_pulls iS_leaders]) (fun _ => rfl) (fun _ => rfl) hl.1 rfl (Nat.le_of_ble_eq_true rfl) dX2_init_30 ⟨Nat.le_of_ble_eq_true rfl, Nat.le_of_ble_eq_true rfl⟩ (bs' := fun x_8 => [[(a, .inr (0, [.ref r_0, .int 0]))], [(r_0, .inl (cS, 6, .inr (.inr (.inr (.inr (va_up (va_up (va_up (fun _ => none) 0 (some r_1)) 1 (some r_3)) 2 (some r_5)))))))], stC (nth (r_1 :: x_2)) cI iS_beams iS_speeds iS_phases iS_springs iS_strikes iS_ways iS_kickSums iS_nearTicks iS_gives iS_settings 0 0 0 iS_pulls iS_leaders, stC (nth (r_3 :: x_4)) cI iS_beams iS_speeds iS_phases iS_springs iS_strikes iS_ways iS_kickSums iS_nearTicks iS_gives iS_settings 0 0 0 iS_pulls iS_leaders, stC (nth (r_5 :: x_6)) cI iS_beams iS_speeds iS_phases iS_springs iS_strikes iS_ways iS_kickSums iS_nearTicks iS_gives iS_settings 0 0 0 iS_pulls iS_leaders, stC (nth (r_7 :: x_8)) cI iS_beams iS_speeds iS_phases iS_springs iS_strikes iS_ways iS_kickSums iS_nearTicks iS_gives iS_settings 0 0 0 iS_pulls iS_leaders]) (fun _ => rfl) (fun x_8 H locs hP hD hS => ?_)
  refine nv_aast hx hb hK hP hD hS 1 1 41 2 rfl rfl rfl rfl 3 (by decide) (by decide) dX2_init_33 (f' := va_up (va_up (va_up (va_up (fun _ => none) 0 (some r_1)) 1 (some r_3)) 2 (some r_5)) 3 (some r_7)) (fun _ _ => rfl) (ws' := [[(a, .inr (0, [.ref r_0, .int 0]))], [(r_0, .inl (cS, 6, .inr (.inr (.inr (.inr (va_up (va_up (va_up (va_up (fun _ => none) 0 (some r_1)) 1 (some r_3)) 2 (some r_5)) 3 (some r_7)))))))], stC (nth (r_1 :: x_2)) cI iS_beams iS_speeds iS_phases iS_springs iS_strikes iS_ways iS_kickSums iS_nearTicks iS_gives iS_settings 0 0 0 iS_pulls iS_leaders, stC (nth (r_3 :: x_4)) cI iS_beams iS_speeds iS_phases iS_springs iS_strikes iS_ways iS_kickSums iS_nearTicks iS_gives iS_settings 0 0 0 iS_pulls iS_leaders, stC (nth (r_5 :: x_6)) cI iS_beams iS_speeds iS_phases iS_springs iS_strikes iS_ways iS_kickSums iS_nearTicks iS_gives iS_settings 0 0 0 iS_pulls iS_leaders, stC (nth (r_7 :: x_8)) cI iS_beams iS_speeds iS_phases iS_springs iS_strikes iS_ways iS_kickSums iS_nearTicks iS_gives iS_settings 0 0 0 iS_pulls iS_leaders].flatten) rfl (fun H locs hP hD hS => ?_)
  refine lv_iinc (v := 4) (k := 0) (lv' := [(1, .int (4 : Int32)), (0, .ref a)]) hx hb dX2_init_34 hl rfl rfl (by decide) rfl (fun ls hl => ?_)
  refine lv_goto (tgt := 15) hx hb dX2_init_37 (by decide) ?_
  refine lv_iload_n hx hb dX2_init_15 rfl (lv_at hl 0 rfl) ?_
  refine lv_bipush (v := 6) hx hb dX2_init_16 (by decide) ?_
  refine nv_ge hx hb 4 6 40 (by decide) (by decide) dX2_init_18 (by decide) (fun c => absurd c (by decide)) (fun _ => ?_)
  refine lv_aload_n hx hb dX2_init_21 rfl (lv_at hl 1 rfl) ?_
  refine va_get (D := G) (ci := 0) (C := RX2) (T := TX2) (N := 2) hx hb hw in_X2 hown hK hP 0 rfl rfl 0 (by decide) (hw _ aw_163) (fun _ h9 => h9) rfl dX2_init_22 ?_
  refine lv_iload_n hx hb dX2_init_25 rfl (lv_at hl 0 rfl) ?_
  refine va_new (ci := 2) (fs := [.null, .null, .null, .null, .null, .null, .null, .null, .null, .null, .int 0, .int 0, .int 0, .null, .null]) (C := RX4) (T := TX4) (N := 15) hx hb hw in_X4 tyX4 tyX4_ok hown (hw _ aw_160) (hw _ aw_95) (hw _ aw_68) hK hP hD hS hA rfl (by decide) (Nat.le_of_ble_eq_true rfl) (Nat.le_of_ble_eq_true rfl) dX2_init_26 (fun r_9 H hP hD hS => ?_)
  have hP : va_P G classes [[(a, .inr (0, [.ref r_0, .int 0]))], [(r_0, .inl (cS, 6, .inr (.inr (.inr (.inr (va_up (va_up (va_up (va_up (fun _ => none) 0 (some r_1)) 1 (some r_3)) 2 (some r_5)) 3 (some r_7)))))))], stC (nth (r_1 :: x_2)) cI iS_beams iS_speeds iS_phases iS_springs iS_strikes iS_ways iS_kickSums iS_nearTicks iS_gives iS_settings 0 0 0 iS_pulls iS_leaders, stC (nth (r_3 :: x_4)) cI iS_beams iS_speeds iS_phases iS_springs iS_strikes iS_ways iS_kickSums iS_nearTicks iS_gives iS_settings 0 0 0 iS_pulls iS_leaders, stC (nth (r_5 :: x_6)) cI iS_beams iS_speeds iS_phases iS_springs iS_strikes iS_ways iS_kickSums iS_nearTicks iS_gives iS_settings 0 0 0 iS_pulls iS_leaders, stC (nth (r_7 :: x_8)) cI iS_beams iS_speeds iS_phases iS_springs iS_strikes iS_ways iS_kickSums iS_nearTicks iS_gives iS_settings 0 0 0 iS_pulls iS_leaders, [(r_9, .inr (2, [.null, .null, .null, .null, .null, .null, .null, .null, .null, .null, .int 0, .int 0, .int 0, .null, .null]))]].flatten H := hP
  have hD : va_D A [[(a, .inr (0, [.ref r_0, .int 0]))], [(r_0, .inl (cS, 6, .inr (.inr (.inr (.inr (va_up (va_up (va_up (va_up (fun _ => none) 0 (some r_1)) 1 (some r_3)) 2 (some r_5)) 3 (some r_7)))))))], stC (nth (r_1 :: x_2)) cI iS_beams iS_speeds iS_phases iS_springs iS_strikes iS_ways iS_kickSums iS_nearTicks iS_gives iS_settings 0 0 0 iS_pulls iS_leaders, stC (nth (r_3 :: x_4)) cI iS_beams iS_speeds iS_phases iS_springs iS_strikes iS_ways iS_kickSums iS_nearTicks iS_gives iS_settings 0 0 0 iS_pulls iS_leaders, stC (nth (r_5 :: x_6)) cI iS_beams iS_speeds iS_phases iS_springs iS_strikes iS_ways iS_kickSums iS_nearTicks iS_gives iS_settings 0 0 0 iS_pulls iS_leaders, stC (nth (r_7 :: x_8)) cI iS_beams iS_speeds iS_phases iS_springs iS_strikes iS_ways iS_kickSums iS_nearTicks iS_gives iS_settings 0 0 0 iS_pulls iS_leaders, [(r_9, .inr (2, [.null, .null, .null, .null, .null, .null, .null, .null, .null, .null, .int 0, .int 0, .int 0, .null, .null]))]].flatten := hD
  refine lv_dup hx hb dX2_init_29 rfl ?_
  refine cn_callI hE X hP hD hS hA (k_X4_init l G cI cS cL ad mp r_9) ci_X4_init aw_162 ⟨Nat.le_of_ble_eq_true rfl, Nat.le_of_ble_eq_true rfl⟩ [6] (cs := [[(r_9, .inr (2, [.null, .null, .null, .null, .null, .null, .null, .null, .null, .null, .int 0, .int 0, .int 0, .null, .null]))]]) rfl (by decide) (fun x_10 => [stC (nth (r_9 :: x_10)) cI iS_beams iS_speeds iS_phases iS_springs iS_strikes iS_ways iS_kickSums iS_nearTicks iS_gives iS_settings 0 0 0 iS_pulls iS_leaders]) (fun _ => rfl) (fun _ => rfl) hl.1 rfl (Nat.le_of_ble_eq_true rfl) dX2_init_30 ⟨Nat.le_of_ble_eq_true rfl, Nat.le_of_ble_eq_true rfl⟩ (bs' := fun x_10 => [[(a, .inr (0, [.ref r_0, .int 0]))], [(r_0, .inl (cS, 6, .inr (.inr (.inr (.inr (va_up (va_up (va_up (va_up (fun _ => none) 0 (some r_1)) 1 (some r_3)) 2 (some r_5)) 3 (some r_7)))))))], stC (nth (r_1 :: x_2)) cI iS_beams iS_speeds iS_phases iS_springs iS_strikes iS_ways iS_kickSums iS_nearTicks iS_gives iS_settings 0 0 0 iS_pulls iS_leaders, stC (nth (r_3 :: x_4)) cI iS_beams iS_speeds iS_phases iS_springs iS_strikes iS_ways iS_kickSums iS_nearTicks iS_gives iS_settings 0 0 0 iS_pulls iS_leaders, stC (nth (r_5 :: x_6)) cI iS_beams iS_speeds iS_phases iS_springs iS_strikes iS_ways iS_kickSums iS_nearTicks iS_gives iS_settings 0 0 0 iS_pulls iS_leaders, stC (nth (r_7 :: x_8)) cI iS_beams iS_speeds iS_phases iS_springs iS_strikes iS_ways iS_kickSums iS_nearTicks iS_gives iS_settings 0 0 0 iS_pulls iS_leaders, stC (nth (r_9 :: x_10)) cI iS_beams iS_speeds iS_phases iS_springs iS_strikes iS_ways iS_kickSums iS_nearTicks iS_gives iS_settings 0 0 0 iS_pulls iS_leaders]) (fun _ => rfl) (fun x_10 H locs hP hD hS => ?_)
  refine nv_aast hx hb hK hP hD hS 1 1 54 2 rfl rfl rfl rfl 4 (by decide) (by decide) dX2_init_33 (f' := va_up (va_up (va_up (va_up (va_up (fun _ => none) 0 (some r_1)) 1 (some r_3)) 2 (some r_5)) 3 (some r_7)) 4 (some r_9)) (fun _ _ => rfl) (ws' := [[(a, .inr (0, [.ref r_0, .int 0]))], [(r_0, .inl (cS, 6, .inr (.inr (.inr (.inr (va_up (va_up (va_up (va_up (va_up (fun _ => none) 0 (some r_1)) 1 (some r_3)) 2 (some r_5)) 3 (some r_7)) 4 (some r_9)))))))], stC (nth (r_1 :: x_2)) cI iS_beams iS_speeds iS_phases iS_springs iS_strikes iS_ways iS_kickSums iS_nearTicks iS_gives iS_settings 0 0 0 iS_pulls iS_leaders, stC (nth (r_3 :: x_4)) cI iS_beams iS_speeds iS_phases iS_springs iS_strikes iS_ways iS_kickSums iS_nearTicks iS_gives iS_settings 0 0 0 iS_pulls iS_leaders, stC (nth (r_5 :: x_6)) cI iS_beams iS_speeds iS_phases iS_springs iS_strikes iS_ways iS_kickSums iS_nearTicks iS_gives iS_settings 0 0 0 iS_pulls iS_leaders, stC (nth (r_7 :: x_8)) cI iS_beams iS_speeds iS_phases iS_springs iS_strikes iS_ways iS_kickSums iS_nearTicks iS_gives iS_settings 0 0 0 iS_pulls iS_leaders, stC (nth (r_9 :: x_10)) cI iS_beams iS_speeds iS_phases iS_springs iS_strikes iS_ways iS_kickSums iS_nearTicks iS_gives iS_settings 0 0 0 iS_pulls iS_leaders].flatten) rfl (fun H locs hP hD hS => ?_)
  refine lv_iinc (v := 5) (k := 0) (lv' := [(1, .int (5 : Int32)), (0, .ref a)]) hx hb dX2_init_34 hl rfl rfl (by decide) rfl (fun ls hl => ?_)
  refine lv_goto (tgt := 15) hx hb dX2_init_37 (by decide) ?_
  refine lv_iload_n hx hb dX2_init_15 rfl (lv_at hl 0 rfl) ?_
  refine lv_bipush (v := 6) hx hb dX2_init_16 (by decide) ?_
  refine nv_ge hx hb 5 6 40 (by decide) (by decide) dX2_init_18 (by decide) (fun c => absurd c (by decide)) (fun _ => ?_)
  refine lv_aload_n hx hb dX2_init_21 rfl (lv_at hl 1 rfl) ?_
  refine va_get (D := G) (ci := 0) (C := RX2) (T := TX2) (N := 2) hx hb hw in_X2 hown hK hP 0 rfl rfl 0 (by decide) (hw _ aw_163) (fun _ h9 => h9) rfl dX2_init_22 ?_
  refine lv_iload_n hx hb dX2_init_25 rfl (lv_at hl 0 rfl) ?_
  refine va_new (ci := 2) (fs := [.null, .null, .null, .null, .null, .null, .null, .null, .null, .null, .int 0, .int 0, .int 0, .null, .null]) (C := RX4) (T := TX4) (N := 15) hx hb hw in_X4 tyX4 tyX4_ok hown (hw _ aw_160) (hw _ aw_95) (hw _ aw_68) hK hP hD hS hA rfl (by decide) (Nat.le_of_ble_eq_true rfl) (Nat.le_of_ble_eq_true rfl) dX2_init_26 (fun r_11 H hP hD hS => ?_)
  have hP : va_P G classes [[(a, .inr (0, [.ref r_0, .int 0]))], [(r_0, .inl (cS, 6, .inr (.inr (.inr (.inr (va_up (va_up (va_up (va_up (va_up (fun _ => none) 0 (some r_1)) 1 (some r_3)) 2 (some r_5)) 3 (some r_7)) 4 (some r_9)))))))], stC (nth (r_1 :: x_2)) cI iS_beams iS_speeds iS_phases iS_springs iS_strikes iS_ways iS_kickSums iS_nearTicks iS_gives iS_settings 0 0 0 iS_pulls iS_leaders, stC (nth (r_3 :: x_4)) cI iS_beams iS_speeds iS_phases iS_springs iS_strikes iS_ways iS_kickSums iS_nearTicks iS_gives iS_settings 0 0 0 iS_pulls iS_leaders, stC (nth (r_5 :: x_6)) cI iS_beams iS_speeds iS_phases iS_springs iS_strikes iS_ways iS_kickSums iS_nearTicks iS_gives iS_settings 0 0 0 iS_pulls iS_leaders, stC (nth (r_7 :: x_8)) cI iS_beams iS_speeds iS_phases iS_springs iS_strikes iS_ways iS_kickSums iS_nearTicks iS_gives iS_settings 0 0 0 iS_pulls iS_leaders, stC (nth (r_9 :: x_10)) cI iS_beams iS_speeds iS_phases iS_springs iS_strikes iS_ways iS_kickSums iS_nearTicks iS_gives iS_settings 0 0 0 iS_pulls iS_leaders, [(r_11, .inr (2, [.null, .null, .null, .null, .null, .null, .null, .null, .null, .null, .int 0, .int 0, .int 0, .null, .null]))]].flatten H := hP
  have hD : va_D A [[(a, .inr (0, [.ref r_0, .int 0]))], [(r_0, .inl (cS, 6, .inr (.inr (.inr (.inr (va_up (va_up (va_up (va_up (va_up (fun _ => none) 0 (some r_1)) 1 (some r_3)) 2 (some r_5)) 3 (some r_7)) 4 (some r_9)))))))], stC (nth (r_1 :: x_2)) cI iS_beams iS_speeds iS_phases iS_springs iS_strikes iS_ways iS_kickSums iS_nearTicks iS_gives iS_settings 0 0 0 iS_pulls iS_leaders, stC (nth (r_3 :: x_4)) cI iS_beams iS_speeds iS_phases iS_springs iS_strikes iS_ways iS_kickSums iS_nearTicks iS_gives iS_settings 0 0 0 iS_pulls iS_leaders, stC (nth (r_5 :: x_6)) cI iS_beams iS_speeds iS_phases iS_springs iS_strikes iS_ways iS_kickSums iS_nearTicks iS_gives iS_settings 0 0 0 iS_pulls iS_leaders, stC (nth (r_7 :: x_8)) cI iS_beams iS_speeds iS_phases iS_springs iS_strikes iS_ways iS_kickSums iS_nearTicks iS_gives iS_settings 0 0 0 iS_pulls iS_leaders, stC (nth (r_9 :: x_10)) cI iS_beams iS_speeds iS_phases iS_springs iS_strikes iS_ways iS_kickSums iS_nearTicks iS_gives iS_settings 0 0 0 iS_pulls iS_leaders, [(r_11, .inr (2, [.null, .null, .null, .null, .null, .null, .null, .null, .null, .null, .int 0, .int 0, .int 0, .null, .null]))]].flatten := hD
  refine lv_dup hx hb dX2_init_29 rfl ?_
  refine cn_callI hE X hP hD hS hA (k_X4_init l G cI cS cL ad mp r_11) ci_X4_init aw_162 ⟨Nat.le_of_ble_eq_true rfl, Nat.le_of_ble_eq_true rfl⟩ [7] (cs := [[(r_11, .inr (2, [.null, .null, .null, .null, .null, .null, .null, .null, .null, .null, .int 0, .int 0, .int 0, .null, .null]))]]) rfl (by decide) (fun x_12 => [stC (nth (r_11 :: x_12)) cI iS_beams iS_speeds iS_phases iS_springs iS_strikes iS_ways iS_kickSums iS_nearTicks iS_gives iS_settings 0 0 0 iS_pulls iS_leaders]) (fun _ => rfl) (fun _ => rfl) hl.1 rfl (Nat.le_of_ble_eq_true rfl) dX2_init_30 ⟨Nat.le_of_ble_eq_true rfl, Nat.le_of_ble_eq_true rfl⟩ (bs' := fun x_12 => [[(a, .inr (0, [.ref r_0, .int 0]))], [(r_0, .inl (cS, 6, .inr (.inr (.inr (.inr (va_up (va_up (va_up (va_up (va_up (fun _ => none) 0 (some r_1)) 1 (some r_3)) 2 (some r_5)) 3 (some r_7)) 4 (some r_9)))))))], stC (nth (r_1 :: x_2)) cI iS_beams iS_speeds iS_phases iS_springs iS_strikes iS_ways iS_kickSums iS_nearTicks iS_gives iS_settings 0 0 0 iS_pulls iS_leaders, stC (nth (r_3 :: x_4)) cI iS_beams iS_speeds iS_phases iS_springs iS_strikes iS_ways iS_kickSums iS_nearTicks iS_gives iS_settings 0 0 0 iS_pulls iS_leaders, stC (nth (r_5 :: x_6)) cI iS_beams iS_speeds iS_phases iS_springs iS_strikes iS_ways iS_kickSums iS_nearTicks iS_gives iS_settings 0 0 0 iS_pulls iS_leaders, stC (nth (r_7 :: x_8)) cI iS_beams iS_speeds iS_phases iS_springs iS_strikes iS_ways iS_kickSums iS_nearTicks iS_gives iS_settings 0 0 0 iS_pulls iS_leaders, stC (nth (r_9 :: x_10)) cI iS_beams iS_speeds iS_phases iS_springs iS_strikes iS_ways iS_kickSums iS_nearTicks iS_gives iS_settings 0 0 0 iS_pulls iS_leaders, stC (nth (r_11 :: x_12)) cI iS_beams iS_speeds iS_phases iS_springs iS_strikes iS_ways iS_kickSums iS_nearTicks iS_gives iS_settings 0 0 0 iS_pulls iS_leaders]) (fun _ => rfl) (fun x_12 H locs hP hD hS => ?_)
  refine nv_aast hx hb hK hP hD hS 1 1 67 2 rfl rfl rfl rfl 5 (by decide) (by decide) dX2_init_33 (f' := sv6 r_1 r_3 r_5 r_7 r_9 r_11) (fun j hj => by rcases j with _ | _ | _ | _ | _ | _ | j <;> first | rfl | omega) (ws' := [[(a, .inr (0, [.ref r_0, .int 0]))], [(r_0, .inl (cS, 6, .inr (.inr (.inr (.inr (sv6 r_1 r_3 r_5 r_7 r_9 r_11))))))], stC (nth (r_1 :: x_2)) cI iS_beams iS_speeds iS_phases iS_springs iS_strikes iS_ways iS_kickSums iS_nearTicks iS_gives iS_settings 0 0 0 iS_pulls iS_leaders, stC (nth (r_3 :: x_4)) cI iS_beams iS_speeds iS_phases iS_springs iS_strikes iS_ways iS_kickSums iS_nearTicks iS_gives iS_settings 0 0 0 iS_pulls iS_leaders, stC (nth (r_5 :: x_6)) cI iS_beams iS_speeds iS_phases iS_springs iS_strikes iS_ways iS_kickSums iS_nearTicks iS_gives iS_settings 0 0 0 iS_pulls iS_leaders, stC (nth (r_7 :: x_8)) cI iS_beams iS_speeds iS_phases iS_springs iS_strikes iS_ways iS_kickSums iS_nearTicks iS_gives iS_settings 0 0 0 iS_pulls iS_leaders, stC (nth (r_9 :: x_10)) cI iS_beams iS_speeds iS_phases iS_springs iS_strikes iS_ways iS_kickSums iS_nearTicks iS_gives iS_settings 0 0 0 iS_pulls iS_leaders, stC (nth (r_11 :: x_12)) cI iS_beams iS_speeds iS_phases iS_springs iS_strikes iS_ways iS_kickSums iS_nearTicks iS_gives iS_settings 0 0 0 iS_pulls iS_leaders].flatten) rfl (fun H locs hP hD hS => ?_)
  refine lv_iinc (v := 6) (k := 0) (lv' := [(1, .int (6 : Int32)), (0, .ref a)]) hx hb dX2_init_34 hl rfl rfl (by decide) rfl (fun ls hl => ?_)
  refine lv_goto (tgt := 15) hx hb dX2_init_37 (by decide) ?_
  refine lv_iload_n hx hb dX2_init_15 rfl (lv_at hl 0 rfl) ?_
  refine lv_bipush (v := 6) hx hb dX2_init_16 (by decide) ?_
  refine nv_ge hx hb 6 6 40 (by decide) (by decide) dX2_init_18 (by decide) (fun _ => ?_) (fun c => absurd (by decide) c)
  exact W.vret hx hb hr (ct_endN (wf := fun x : List Nat × List (List Nat) => hbC (nth (a :: x.1)) cI cS 0 (nths x.2) (fun _ => iSt)) ([r_0], [r_1 :: x_2, r_3 :: x_4, r_5 :: x_6, r_7 :: x_8, r_9 :: x_10, r_11 :: x_12]) hP hD hS) hS.2.2 dX2_init_40
set_option maxRecDepth 100000 in
set_option maxHeartbeats 8000000 in
theorem k_X5_init (l : Launch) (G : va_G) (cI cS cL : ClassId) (ad : Nat → Nat) (mp : Nat) (a : Nat) : CtN l G (tyl cI cS cL) ad mp yX5_init cX5_init 1 3 62 121 1488 [.ref a] [[(a, .inr (3, [.null, .null, .null, .null, .null, .int 0]))]].flatten (fun x : List Nat × List Nat × List Nat × List Nat × List (List Nat) × List Nat => [tcC (nth [a]) (nth x.1) (nth x.2.1) (nth x.2.2.1) (nth x.2.2.2.1) (nth x.2.2.2.2.2) false, stC (nth x.1) cI iS_beams iS_speeds iS_phases iS_springs iS_strikes iS_ways iS_kickSums iS_nearTicks iS_gives iS_settings 0 0 0 iS_pulls iS_leaders, stC (nth x.2.1) cI iS_beams iS_speeds iS_phases iS_springs iS_strikes iS_ways iS_kickSums iS_nearTicks iS_gives iS_settings 0 0 0 iS_pulls iS_leaders, stC (nth x.2.2.1) cI iS_beams iS_speeds iS_phases iS_springs iS_strikes iS_ways iS_kickSums iS_nearTicks iS_gives iS_settings 0 0 0 iS_pulls iS_leaders, hbC (nth x.2.2.2.1) cI cS 0 (nths x.2.2.2.2.1) (fun _ => iSt), txC (nth x.2.2.2.2.2) cI ad (fun _ => 0) 0 0 0 0 false 0].flatten) := by
  refine CtN.of (by decide +kernel) (Nat.le_of_ble_eq_true rfl) ?_
  intro p e s m args below meth c A ls hx hb hr hml hw hown hlocks hin hK hN hE hP hD hS hA hl
  have hown : s.vm.findClass RX5 = some m.cls := hown
  have X : Cx p s m args c cX5_init 1 RX5 G (tyl cI cS cL) := ⟨hx, hb, hml, hown, hw, hK, hN⟩
  have hP : va_P G classes [[(a, .inr (3, [.null, .null, .null, .null, .null, .int 0]))]].flatten s.heap := hP
  have hl : lv_has ls 1 [(0, .ref a)] := hl
  refine lv_aload_n hx hb dX5_init_0 rfl (lv_at hl 0 rfl) ?_
  refine W.objInit hx hb hown (hw _ aw_91) (hw _ aw_92) (hw _ aw_93) rfl (by rw [hml]; exact hl.1) rfl dX5_init_1 (Nat.le_of_ble_eq_true rfl) (Nat.le_of_ble_eq_true rfl) ?_
  refine W.eq (g2 := F0 m 4 ls []) rfl ?_
  refine lv_aload_n hx hb dX5_init_4 rfl (lv_at hl 0 rfl) ?_
  refine va_new (ci := 2) (fs := [.null, .null, .null, .null, .null, .null, .null, .null, .null, .null, .int 0, .int 0, .int 0, .null, .null]) (C := RX4) (T := TX4) (N := 15) hx hb hw in_X4 tyX4 tyX4_ok hown (hw _ aw_94) (hw _ aw_95) (hw _ aw_68) hK hP hD hS hA rfl (by decide) (Nat.le_of_ble_eq_true rfl) (Nat.le_of_ble_eq_true rfl) dX5_init_5 (fun r_0 H hP hD hS => ?_)
  have hP : va_P G classes [[(a, .inr (3, [.null, .null, .null, .null, .null, .int 0]))], [(r_0, .inr (2, [.null, .null, .null, .null, .null, .null, .null, .null, .null, .null, .int 0, .int 0, .int 0, .null, .null]))]].flatten H := hP
  have hD : va_D A [[(a, .inr (3, [.null, .null, .null, .null, .null, .int 0]))], [(r_0, .inr (2, [.null, .null, .null, .null, .null, .null, .null, .null, .null, .null, .int 0, .int 0, .int 0, .null, .null]))]].flatten := hD
  refine lv_dup hx hb dX5_init_8 rfl ?_
  refine cn_callI hE X hP hD hS hA (k_X4_init l G cI cS cL ad mp r_0) ci_X4_init aw_96 ⟨Nat.le_of_ble_eq_true rfl, Nat.le_of_ble_eq_true rfl⟩ [1] (cs := [[(r_0, .inr (2, [.null, .null, .null, .null, .null, .null, .null, .null, .null, .null, .int 0, .int 0, .int 0, .null, .null]))]]) rfl (by decide) (fun x_1 => [stC (nth (r_0 :: x_1)) cI iS_beams iS_speeds iS_phases iS_springs iS_strikes iS_ways iS_kickSums iS_nearTicks iS_gives iS_settings 0 0 0 iS_pulls iS_leaders]) (fun _ => rfl) (fun _ => rfl) hl.1 rfl (Nat.le_of_ble_eq_true rfl) dX5_init_9 ⟨Nat.le_of_ble_eq_true rfl, Nat.le_of_ble_eq_true rfl⟩ (bs' := fun x_1 => [[(a, .inr (3, [.null, .null, .null, .null, .null, .int 0]))], stC (nth (r_0 :: x_1)) cI iS_beams iS_speeds iS_phases iS_springs iS_strikes iS_ways iS_kickSums iS_nearTicks iS_gives iS_settings 0 0 0 iS_pulls iS_leaders]) (fun _ => rfl) (fun x_1 H locs hP hD hS => ?_)
  refine nv_putF (D := G) (ci := 3) (ty := (.object "TandemClocks$State")) (v := .ref r_0) (C := RX5) (T := TX5) (N := 6) hx hb hw in_X5 tyX5 tyX5_ok nmX5 hown hK hP hD hS 0 rfl rfl 0 (by decide) (hw _ aw_206) (fun _ h9 => h9) rfl (by rw [hin]; rfl) rfl (by decide +kernel) rfl rfl (Nat.le_of_ble_eq_true rfl) dX5_init_12 (ws' := [[(a, .inr (3, [.ref r_0, .null, .null, .null, .null, .int 0]))], stC (nth (r_0 :: x_1)) cI iS_beams iS_speeds iS_phases iS_springs iS_strikes iS_ways iS_kickSums iS_nearTicks iS_gives iS_settings 0 0 0 iS_pulls iS_leaders].flatten) rfl (fun H locs hP hD hS => ?_)
  refine lv_aload_n hx hb dX5_init_15 rfl (lv_at hl 0 rfl) ?_
  refine va_new (ci := 2) (fs := [.null, .null, .null, .null, .null, .null, .null, .null, .null, .null, .int 0, .int 0, .int 0, .null, .null]) (C := RX4) (T := TX4) (N := 15) hx hb hw in_X4 tyX4 tyX4_ok hown (hw _ aw_94) (hw _ aw_95) (hw _ aw_68) hK hP hD hS hA rfl (by decide) (Nat.le_of_ble_eq_true rfl) (Nat.le_of_ble_eq_true rfl) dX5_init_16 (fun r_2 H hP hD hS => ?_)
  have hP : va_P G classes [[(a, .inr (3, [.ref r_0, .null, .null, .null, .null, .int 0]))], stC (nth (r_0 :: x_1)) cI iS_beams iS_speeds iS_phases iS_springs iS_strikes iS_ways iS_kickSums iS_nearTicks iS_gives iS_settings 0 0 0 iS_pulls iS_leaders, [(r_2, .inr (2, [.null, .null, .null, .null, .null, .null, .null, .null, .null, .null, .int 0, .int 0, .int 0, .null, .null]))]].flatten H := hP
  have hD : va_D A [[(a, .inr (3, [.ref r_0, .null, .null, .null, .null, .int 0]))], stC (nth (r_0 :: x_1)) cI iS_beams iS_speeds iS_phases iS_springs iS_strikes iS_ways iS_kickSums iS_nearTicks iS_gives iS_settings 0 0 0 iS_pulls iS_leaders, [(r_2, .inr (2, [.null, .null, .null, .null, .null, .null, .null, .null, .null, .null, .int 0, .int 0, .int 0, .null, .null]))]].flatten := hD
  refine lv_dup hx hb dX5_init_19 rfl ?_
  refine cn_callI hE X hP hD hS hA (k_X4_init l G cI cS cL ad mp r_2) ci_X4_init aw_96 ⟨Nat.le_of_ble_eq_true rfl, Nat.le_of_ble_eq_true rfl⟩ [2] (cs := [[(r_2, .inr (2, [.null, .null, .null, .null, .null, .null, .null, .null, .null, .null, .int 0, .int 0, .int 0, .null, .null]))]]) rfl (by decide) (fun x_3 => [stC (nth (r_2 :: x_3)) cI iS_beams iS_speeds iS_phases iS_springs iS_strikes iS_ways iS_kickSums iS_nearTicks iS_gives iS_settings 0 0 0 iS_pulls iS_leaders]) (fun _ => rfl) (fun _ => rfl) hl.1 rfl (Nat.le_of_ble_eq_true rfl) dX5_init_20 ⟨Nat.le_of_ble_eq_true rfl, Nat.le_of_ble_eq_true rfl⟩ (bs' := fun x_3 => [[(a, .inr (3, [.ref r_0, .null, .null, .null, .null, .int 0]))], stC (nth (r_0 :: x_1)) cI iS_beams iS_speeds iS_phases iS_springs iS_strikes iS_ways iS_kickSums iS_nearTicks iS_gives iS_settings 0 0 0 iS_pulls iS_leaders, stC (nth (r_2 :: x_3)) cI iS_beams iS_speeds iS_phases iS_springs iS_strikes iS_ways iS_kickSums iS_nearTicks iS_gives iS_settings 0 0 0 iS_pulls iS_leaders]) (fun _ => rfl) (fun x_3 H locs hP hD hS => ?_)
  refine nv_putF (D := G) (ci := 3) (ty := (.object "TandemClocks$State")) (v := .ref r_2) (C := RX5) (T := TX5) (N := 6) hx hb hw in_X5 tyX5 tyX5_ok nmX5 hown hK hP hD hS 0 rfl rfl 1 (by decide) (hw _ aw_207) (fun _ h9 => h9) rfl (by rw [hin]; rfl) rfl (by decide +kernel) rfl rfl (Nat.le_of_ble_eq_true rfl) dX5_init_23 (ws' := [[(a, .inr (3, [.ref r_0, .ref r_2, .null, .null, .null, .int 0]))], stC (nth (r_0 :: x_1)) cI iS_beams iS_speeds iS_phases iS_springs iS_strikes iS_ways iS_kickSums iS_nearTicks iS_gives iS_settings 0 0 0 iS_pulls iS_leaders, stC (nth (r_2 :: x_3)) cI iS_beams iS_speeds iS_phases iS_springs iS_strikes iS_ways iS_kickSums iS_nearTicks iS_gives iS_settings 0 0 0 iS_pulls iS_leaders].flatten) rfl (fun H locs hP hD hS => ?_)
  refine lv_aload_n hx hb dX5_init_26 rfl (lv_at hl 0 rfl) ?_
  refine va_new (ci := 2) (fs := [.null, .null, .null, .null, .null, .null, .null, .null, .null, .null, .int 0, .int 0, .int 0, .null, .null]) (C := RX4) (T := TX4) (N := 15) hx hb hw in_X4 tyX4 tyX4_ok hown (hw _ aw_94) (hw _ aw_95) (hw _ aw_68) hK hP hD hS hA rfl (by decide) (Nat.le_of_ble_eq_true rfl) (Nat.le_of_ble_eq_true rfl) dX5_init_27 (fun r_4 H hP hD hS => ?_)
  have hP : va_P G classes [[(a, .inr (3, [.ref r_0, .ref r_2, .null, .null, .null, .int 0]))], stC (nth (r_0 :: x_1)) cI iS_beams iS_speeds iS_phases iS_springs iS_strikes iS_ways iS_kickSums iS_nearTicks iS_gives iS_settings 0 0 0 iS_pulls iS_leaders, stC (nth (r_2 :: x_3)) cI iS_beams iS_speeds iS_phases iS_springs iS_strikes iS_ways iS_kickSums iS_nearTicks iS_gives iS_settings 0 0 0 iS_pulls iS_leaders, [(r_4, .inr (2, [.null, .null, .null, .null, .null, .null, .null, .null, .null, .null, .int 0, .int 0, .int 0, .null, .null]))]].flatten H := hP
  have hD : va_D A [[(a, .inr (3, [.ref r_0, .ref r_2, .null, .null, .null, .int 0]))], stC (nth (r_0 :: x_1)) cI iS_beams iS_speeds iS_phases iS_springs iS_strikes iS_ways iS_kickSums iS_nearTicks iS_gives iS_settings 0 0 0 iS_pulls iS_leaders, stC (nth (r_2 :: x_3)) cI iS_beams iS_speeds iS_phases iS_springs iS_strikes iS_ways iS_kickSums iS_nearTicks iS_gives iS_settings 0 0 0 iS_pulls iS_leaders, [(r_4, .inr (2, [.null, .null, .null, .null, .null, .null, .null, .null, .null, .null, .int 0, .int 0, .int 0, .null, .null]))]].flatten := hD
  refine lv_dup hx hb dX5_init_30 rfl ?_
  refine cn_callI hE X hP hD hS hA (k_X4_init l G cI cS cL ad mp r_4) ci_X4_init aw_96 ⟨Nat.le_of_ble_eq_true rfl, Nat.le_of_ble_eq_true rfl⟩ [3] (cs := [[(r_4, .inr (2, [.null, .null, .null, .null, .null, .null, .null, .null, .null, .null, .int 0, .int 0, .int 0, .null, .null]))]]) rfl (by decide) (fun x_5 => [stC (nth (r_4 :: x_5)) cI iS_beams iS_speeds iS_phases iS_springs iS_strikes iS_ways iS_kickSums iS_nearTicks iS_gives iS_settings 0 0 0 iS_pulls iS_leaders]) (fun _ => rfl) (fun _ => rfl) hl.1 rfl (Nat.le_of_ble_eq_true rfl) dX5_init_31 ⟨Nat.le_of_ble_eq_true rfl, Nat.le_of_ble_eq_true rfl⟩ (bs' := fun x_5 => [[(a, .inr (3, [.ref r_0, .ref r_2, .null, .null, .null, .int 0]))], stC (nth (r_0 :: x_1)) cI iS_beams iS_speeds iS_phases iS_springs iS_strikes iS_ways iS_kickSums iS_nearTicks iS_gives iS_settings 0 0 0 iS_pulls iS_leaders, stC (nth (r_2 :: x_3)) cI iS_beams iS_speeds iS_phases iS_springs iS_strikes iS_ways iS_kickSums iS_nearTicks iS_gives iS_settings 0 0 0 iS_pulls iS_leaders, stC (nth (r_4 :: x_5)) cI iS_beams iS_speeds iS_phases iS_springs iS_strikes iS_ways iS_kickSums iS_nearTicks iS_gives iS_settings 0 0 0 iS_pulls iS_leaders]) (fun _ => rfl) (fun x_5 H locs hP hD hS => ?_)
  refine nv_putF (D := G) (ci := 3) (ty := (.object "TandemClocks$State")) (v := .ref r_4) (C := RX5) (T := TX5) (N := 6) hx hb hw in_X5 tyX5 tyX5_ok nmX5 hown hK hP hD hS 0 rfl rfl 2 (by decide) (hw _ aw_208) (fun _ h9 => h9) rfl (by rw [hin]; rfl) rfl (by decide +kernel) rfl rfl (Nat.le_of_ble_eq_true rfl) dX5_init_34 (ws' := [[(a, .inr (3, [.ref r_0, .ref r_2, .ref r_4, .null, .null, .int 0]))], stC (nth (r_0 :: x_1)) cI iS_beams iS_speeds iS_phases iS_springs iS_strikes iS_ways iS_kickSums iS_nearTicks iS_gives iS_settings 0 0 0 iS_pulls iS_leaders, stC (nth (r_2 :: x_3)) cI iS_beams iS_speeds iS_phases iS_springs iS_strikes iS_ways iS_kickSums iS_nearTicks iS_gives iS_settings 0 0 0 iS_pulls iS_leaders, stC (nth (r_4 :: x_5)) cI iS_beams iS_speeds iS_phases iS_springs iS_strikes iS_ways iS_kickSums iS_nearTicks iS_gives iS_settings 0 0 0 iS_pulls iS_leaders].flatten) rfl (fun H locs hP hD hS => ?_)
  refine lv_aload_n hx hb dX5_init_37 rfl (lv_at hl 0 rfl) ?_
  refine va_new (ci := 0) (fs := [.null, .int 0]) (C := RX2) (T := TX2) (N := 2) hx hb hw in_X2 tyX2 tyX2_ok hown (hw _ aw_154) (hw _ aw_155) (hw _ aw_69) hK hP hD hS hA rfl (by decide) (Nat.le_of_ble_eq_true rfl) (Nat.le_of_ble_eq_true rfl) dX5_init_38 (fun r_6 H hP hD hS => ?_)
  have hP : va_P G classes [[(a, .inr (3, [.ref r_0, .ref r_2, .ref r_4, .null, .null, .int 0]))], stC (nth (r_0 :: x_1)) cI iS_beams iS_speeds iS_phases iS_springs iS_strikes iS_ways iS_kickSums iS_nearTicks iS_gives iS_settings 0 0 0 iS_pulls iS_leaders, stC (nth (r_2 :: x_3)) cI iS_beams iS_speeds iS_phases iS_springs iS_strikes iS_ways iS_kickSums iS_nearTicks iS_gives iS_settings 0 0 0 iS_pulls iS_leaders, stC (nth (r_4 :: x_5)) cI iS_beams iS_speeds iS_phases iS_springs iS_strikes iS_ways iS_kickSums iS_nearTicks iS_gives iS_settings 0 0 0 iS_pulls iS_leaders, [(r_6, .inr (0, [.null, .int 0]))]].flatten H := hP
  have hD : va_D A [[(a, .inr (3, [.ref r_0, .ref r_2, .ref r_4, .null, .null, .int 0]))], stC (nth (r_0 :: x_1)) cI iS_beams iS_speeds iS_phases iS_springs iS_strikes iS_ways iS_kickSums iS_nearTicks iS_gives iS_settings 0 0 0 iS_pulls iS_leaders, stC (nth (r_2 :: x_3)) cI iS_beams iS_speeds iS_phases iS_springs iS_strikes iS_ways iS_kickSums iS_nearTicks iS_gives iS_settings 0 0 0 iS_pulls iS_leaders, stC (nth (r_4 :: x_5)) cI iS_beams iS_speeds iS_phases iS_springs iS_strikes iS_ways iS_kickSums iS_nearTicks iS_gives iS_settings 0 0 0 iS_pulls iS_leaders, [(r_6, .inr (0, [.null, .int 0]))]].flatten := hD
  refine lv_dup hx hb dX5_init_41 rfl ?_
  refine cn_callI hE X hP hD hS hA (k_X2_init l G cI cS cL ad mp r_6) ci_X2_init aw_156 ⟨Nat.le_of_ble_eq_true rfl, Nat.le_of_ble_eq_true rfl⟩ [4] (cs := [[(r_6, .inr (0, [.null, .int 0]))]]) rfl (by decide) (fun x_7 => [hbC (nth (r_6 :: x_7.1)) cI cS 0 (nths x_7.2) (fun _ => iSt)]) (fun _ => rfl) (fun _ => rfl) hl.1 rfl (Nat.le_of_ble_eq_true rfl) dX5_init_42 ⟨Nat.le_of_ble_eq_true rfl, Nat.le_of_ble_eq_true rfl⟩ (bs' := fun x_7 => [[(a, .inr (3, [.ref r_0, .ref r_2, .ref r_4, .null, .null, .int 0]))], stC (nth (r_0 :: x_1)) cI iS_beams iS_speeds iS_phases iS_springs iS_strikes iS_ways iS_kickSums iS_nearTicks iS_gives iS_settings 0 0 0 iS_pulls iS_leaders, stC (nth (r_2 :: x_3)) cI iS_beams iS_speeds iS_phases iS_springs iS_strikes iS_ways iS_kickSums iS_nearTicks iS_gives iS_settings 0 0 0 iS_pulls iS_leaders, stC (nth (r_4 :: x_5)) cI iS_beams iS_speeds iS_phases iS_springs iS_strikes iS_ways iS_kickSums iS_nearTicks iS_gives iS_settings 0 0 0 iS_pulls iS_leaders, hbC (nth (r_6 :: x_7.1)) cI cS 0 (nths x_7.2) (fun _ => iSt)]) (fun _ => rfl) (fun x_7 H locs hP hD hS => ?_)
  refine nv_putF (D := G) (ci := 3) (ty := (.object "TandemClocks$History")) (v := .ref r_6) (C := RX5) (T := TX5) (N := 6) hx hb hw in_X5 tyX5 tyX5_ok nmX5 hown hK hP hD hS 0 rfl rfl 3 (by decide) (hw _ aw_209) (fun _ h9 => h9) rfl (by rw [hin]; rfl) rfl (by decide +kernel) rfl rfl (Nat.le_of_ble_eq_true rfl) dX5_init_45 (ws' := [[(a, .inr (3, [.ref r_0, .ref r_2, .ref r_4, .ref r_6, .null, .int 0]))], stC (nth (r_0 :: x_1)) cI iS_beams iS_speeds iS_phases iS_springs iS_strikes iS_ways iS_kickSums iS_nearTicks iS_gives iS_settings 0 0 0 iS_pulls iS_leaders, stC (nth (r_2 :: x_3)) cI iS_beams iS_speeds iS_phases iS_springs iS_strikes iS_ways iS_kickSums iS_nearTicks iS_gives iS_settings 0 0 0 iS_pulls iS_leaders, stC (nth (r_4 :: x_5)) cI iS_beams iS_speeds iS_phases iS_springs iS_strikes iS_ways iS_kickSums iS_nearTicks iS_gives iS_settings 0 0 0 iS_pulls iS_leaders, hbC (nth (r_6 :: x_7.1)) cI cS 0 (nths x_7.2) (fun _ => iSt)].flatten) rfl (fun H locs hP hD hS => ?_)
  refine lv_aload_n hx hb dX5_init_48 rfl (lv_at hl 0 rfl) ?_
  refine va_new (ci := 1) (fs := [.null, .int 0, .null, .int 0, .int 0, .int 0, .int 0]) (C := RX3) (T := TX3) (N := 7) hx hb hw in_X3 tyX3 tyX3_ok hown (hw _ aw_171) (hw _ aw_172) (hw _ aw_70) hK hP hD hS hA rfl (by decide) (Nat.le_of_ble_eq_true rfl) (Nat.le_of_ble_eq_true rfl) dX5_init_49 (fun r_8 H hP hD hS => ?_)
  have hP : va_P G classes [[(a, .inr (3, [.ref r_0, .ref r_2, .ref r_4, .ref r_6, .null, .int 0]))], stC (nth (r_0 :: x_1)) cI iS_beams iS_speeds iS_phases iS_springs iS_strikes iS_ways iS_kickSums iS_nearTicks iS_gives iS_settings 0 0 0 iS_pulls iS_leaders, stC (nth (r_2 :: x_3)) cI iS_beams iS_speeds iS_phases iS_springs iS_strikes iS_ways iS_kickSums iS_nearTicks iS_gives iS_settings 0 0 0 iS_pulls iS_leaders, stC (nth (r_4 :: x_5)) cI iS_beams iS_speeds iS_phases iS_springs iS_strikes iS_ways iS_kickSums iS_nearTicks iS_gives iS_settings 0 0 0 iS_pulls iS_leaders, hbC (nth (r_6 :: x_7.1)) cI cS 0 (nths x_7.2) (fun _ => iSt), [(r_8, .inr (1, [.null, .int 0, .null, .int 0, .int 0, .int 0, .int 0]))]].flatten H := hP
  have hD : va_D A [[(a, .inr (3, [.ref r_0, .ref r_2, .ref r_4, .ref r_6, .null, .int 0]))], stC (nth (r_0 :: x_1)) cI iS_beams iS_speeds iS_phases iS_springs iS_strikes iS_ways iS_kickSums iS_nearTicks iS_gives iS_settings 0 0 0 iS_pulls iS_leaders, stC (nth (r_2 :: x_3)) cI iS_beams iS_speeds iS_phases iS_springs iS_strikes iS_ways iS_kickSums iS_nearTicks iS_gives iS_settings 0 0 0 iS_pulls iS_leaders, stC (nth (r_4 :: x_5)) cI iS_beams iS_speeds iS_phases iS_springs iS_strikes iS_ways iS_kickSums iS_nearTicks iS_gives iS_settings 0 0 0 iS_pulls iS_leaders, hbC (nth (r_6 :: x_7.1)) cI cS 0 (nths x_7.2) (fun _ => iSt), [(r_8, .inr (1, [.null, .int 0, .null, .int 0, .int 0, .int 0, .int 0]))]].flatten := hD
  refine lv_dup hx hb dX5_init_52 rfl ?_
  refine cn_callIN hE X hP hD hS hA (k_X3_init l G cI cS cL ad mp r_8) ci_X3_init nw_173 ⟨Nat.le_of_ble_eq_true rfl, Nat.le_of_ble_eq_true rfl⟩ [5] (cs := [[(r_8, .inr (1, [.null, .int 0, .null, .int 0, .int 0, .int 0, .int 0]))]]) rfl (by decide) (fun x_9 => [txC (nth (r_8 :: x_9)) cI ad (fun _ => 0) 0 0 0 0 false 0]) (fun _ => rfl) (fun _ => rfl) hl.1 rfl (Nat.le_of_ble_eq_true rfl) dX5_init_53 ⟨Nat.le_of_ble_eq_true rfl, Nat.le_of_ble_eq_true rfl⟩ (bs' := fun x_9 => [[(a, .inr (3, [.ref r_0, .ref r_2, .ref r_4, .ref r_6, .null, .int 0]))], stC (nth (r_0 :: x_1)) cI iS_beams iS_speeds iS_phases iS_springs iS_strikes iS_ways iS_kickSums iS_nearTicks iS_gives iS_settings 0 0 0 iS_pulls iS_leaders, stC (nth (r_2 :: x_3)) cI iS_beams iS_speeds iS_phases iS_springs iS_strikes iS_ways iS_kickSums iS_nearTicks iS_gives iS_settings 0 0 0 iS_pulls iS_leaders, stC (nth (r_4 :: x_5)) cI iS_beams iS_speeds iS_phases iS_springs iS_strikes iS_ways iS_kickSums iS_nearTicks iS_gives iS_settings 0 0 0 iS_pulls iS_leaders, hbC (nth (r_6 :: x_7.1)) cI cS 0 (nths x_7.2) (fun _ => iSt), txC (nth (r_8 :: x_9)) cI ad (fun _ => 0) 0 0 0 0 false 0]) (fun _ => rfl) (fun x_9 H locs hP hD hS => ?_)
  refine nv_putF (D := G) (ci := 3) (ty := (.object "TandemClocks$OrderText")) (v := .ref r_8) (C := RX5) (T := TX5) (N := 6) hx hb hw in_X5 tyX5 tyX5_ok nmX5 hown hK hP hD hS 0 rfl rfl 4 (by decide) (hw _ aw_210) (fun _ h9 => h9) rfl (by rw [hin]; rfl) rfl (by decide +kernel) rfl rfl (Nat.le_of_ble_eq_true rfl) dX5_init_56 (ws' := [[(a, .inr (3, [.ref r_0, .ref r_2, .ref r_4, .ref r_6, .ref r_8, .int 0]))], stC (nth (r_0 :: x_1)) cI iS_beams iS_speeds iS_phases iS_springs iS_strikes iS_ways iS_kickSums iS_nearTicks iS_gives iS_settings 0 0 0 iS_pulls iS_leaders, stC (nth (r_2 :: x_3)) cI iS_beams iS_speeds iS_phases iS_springs iS_strikes iS_ways iS_kickSums iS_nearTicks iS_gives iS_settings 0 0 0 iS_pulls iS_leaders, stC (nth (r_4 :: x_5)) cI iS_beams iS_speeds iS_phases iS_springs iS_strikes iS_ways iS_kickSums iS_nearTicks iS_gives iS_settings 0 0 0 iS_pulls iS_leaders, hbC (nth (r_6 :: x_7.1)) cI cS 0 (nths x_7.2) (fun _ => iSt), txC (nth (r_8 :: x_9)) cI ad (fun _ => 0) 0 0 0 0 false 0].flatten) rfl (fun H locs hP hD hS => ?_)
  exact W.vret hx hb hr (ct_endN (wf := fun x : List Nat × List Nat × List Nat × List Nat × List (List Nat) × List Nat => [tcC (nth [a]) (nth x.1) (nth x.2.1) (nth x.2.2.1) (nth x.2.2.2.1) (nth x.2.2.2.2.2) false, stC (nth x.1) cI iS_beams iS_speeds iS_phases iS_springs iS_strikes iS_ways iS_kickSums iS_nearTicks iS_gives iS_settings 0 0 0 iS_pulls iS_leaders, stC (nth x.2.1) cI iS_beams iS_speeds iS_phases iS_springs iS_strikes iS_ways iS_kickSums iS_nearTicks iS_gives iS_settings 0 0 0 iS_pulls iS_leaders, stC (nth x.2.2.1) cI iS_beams iS_speeds iS_phases iS_springs iS_strikes iS_ways iS_kickSums iS_nearTicks iS_gives iS_settings 0 0 0 iS_pulls iS_leaders, hbC (nth x.2.2.2.1) cI cS 0 (nths x.2.2.2.2.1) (fun _ => iSt), txC (nth x.2.2.2.2.2) cI ad (fun _ => 0) 0 0 0 0 false 0].flatten) (r_0 :: x_1, r_2 :: x_3, r_4 :: x_5, r_6 :: x_7.1, x_7.2, r_8 :: x_9) hP hD hS) hS.2.2 dX5_init_59
set_option maxRecDepth 100000 in
set_option maxHeartbeats 8000000 in
theorem k_X6_init (l : Launch) (G : va_G) (cI cS cL : ClassId) (ad : Nat → Nat) (mp : Nat) (a : Nat) : CtN l G (tyl cI cS cL) ad mp yX6_init cX6_init 3 1 20 7 1237 [.ref a] [[(a, .inr (4, [.int 0, .null, .null, .null, .int 0, .null, .int 0, .null, .null, .null, .int 0, .int 0, .int 0, .int 0, .int 0]))]].flatten (fun x : List Nat => [mdC (nth (a :: x)) 0 false 0 0 0 false false 0, rwC (nth (a :: x) 1) cI 129 iM_now, rwC (nth (a :: x) 2) cI 129 iM_trial, rwC (nth (a :: x) 3) cI 129 iM_shot, rwC (nth (a :: x) 4) cI 774 iM_book, rwC (nth (a :: x) 5) cI 8 iM_pulls, rwC (nth (a :: x) 6) cI 8 iM_group, rwC (nth (a :: x) 7) cI 60 iM_text].flatten) := by
  refine CtN.of (by decide +kernel) (Nat.le_of_ble_eq_true rfl) ?_
  intro p e s m args below meth c A ls hx hb hr hml hw hown hlocks hin hK hN hE hP hD hS hA hl
  have hown : s.vm.findClass RX6 = some m.cls := hown
  have X : Cx p s m args c cX6_init 3 RX6 G (tyl cI cS cL) := ⟨hx, hb, hml, hown, hw, hK, hN⟩
  have hP : va_P G classes [[(a, .inr (4, [.int 0, .null, .null, .null, .int 0, .null, .int 0, .null, .null, .null, .int 0, .int 0, .int 0, .int 0, .int 0]))]].flatten s.heap := hP
  have hl : lv_has ls 3 [(0, .ref a)] := hl
  refine lv_aload_n hx hb dX6_init_0 rfl (lv_at hl 0 rfl) ?_
  refine W.objInit hx hb hown (hw _ aw_870) (hw _ aw_92) (hw _ aw_93) rfl (by rw [hml]; exact hl.1) rfl dX6_init_1 (Nat.le_of_ble_eq_true rfl) (Nat.le_of_ble_eq_true rfl) ?_
  refine W.eq (g2 := F0 m 4 ls []) rfl ?_
  refine lv_aload_n hx hb dX6_init_4 rfl (lv_at hl 0 rfl) ?_
  refine lv_sipush (v := 129) hx hb dX6_init_5 (by decide) ?_
  refine cn_newi X hP hD hS hA 129 (by decide) (by decide) (by decide) (Nat.le_of_ble_eq_true rfl) (Nat.le_of_ble_eq_true rfl) dX6_init_8 (fun r_0 H hP hD hS => ?_)
  have hP : va_P G classes [[(a, .inr (4, [.int 0, .null, .null, .null, .int 0, .null, .int 0, .null, .null, .null, .int 0, .int 0, .int 0, .int 0, .int 0]))], rwC r_0 cI 129 (fun _ => 0)].flatten H := hP
  have hD : va_D A [[(a, .inr (4, [.int 0, .null, .null, .null, .int 0, .null, .int 0, .null, .null, .null, .int 0, .int 0, .int 0, .int 0, .int 0]))], rwC r_0 cI 129 (fun _ => 0)].flatten := hD
  refine nv_putF (D := G) (ci := 4) (ty := (.array .int)) (v := .ref r_0) (C := RX6) (T := TX6) (N := 15) hx hb hw in_X6 tyX6 tyX6_ok nmX6 hown hK hP hD hS 0 rfl rfl 1 (by decide) (hw _ aw_872) (fun _ h9 => h9) rfl (by rw [hin]; rfl) rfl (by decide +kernel) rfl rfl (Nat.le_of_ble_eq_true rfl) dX6_init_10 (ws' := [[(a, .inr (4, [.int 0, .ref r_0, .null, .null, .int 0, .null, .int 0, .null, .null, .null, .int 0, .int 0, .int 0, .int 0, .int 0]))], rwC r_0 cI 129 (fun _ => 0)].flatten) rfl (fun H locs hP hD hS => ?_)
  refine lv_aload_n hx hb dX6_init_13 rfl (lv_at hl 0 rfl) ?_
  refine lv_sipush (v := 129) hx hb dX6_init_14 (by decide) ?_
  refine cn_newi X hP hD hS hA 129 (by decide) (by decide) (by decide) (Nat.le_of_ble_eq_true rfl) (Nat.le_of_ble_eq_true rfl) dX6_init_17 (fun r_1 H hP hD hS => ?_)
  have hP : va_P G classes [[(a, .inr (4, [.int 0, .ref r_0, .null, .null, .int 0, .null, .int 0, .null, .null, .null, .int 0, .int 0, .int 0, .int 0, .int 0]))], rwC r_0 cI 129 (fun _ => 0), rwC r_1 cI 129 (fun _ => 0)].flatten H := hP
  have hD : va_D A [[(a, .inr (4, [.int 0, .ref r_0, .null, .null, .int 0, .null, .int 0, .null, .null, .null, .int 0, .int 0, .int 0, .int 0, .int 0]))], rwC r_0 cI 129 (fun _ => 0), rwC r_1 cI 129 (fun _ => 0)].flatten := hD
  refine nv_putF (D := G) (ci := 4) (ty := (.array .int)) (v := .ref r_1) (C := RX6) (T := TX6) (N := 15) hx hb hw in_X6 tyX6 tyX6_ok nmX6 hown hK hP hD hS 0 rfl rfl 2 (by decide) (hw _ aw_873) (fun _ h9 => h9) rfl (by rw [hin]; rfl) rfl (by decide +kernel) rfl rfl (Nat.le_of_ble_eq_true rfl) dX6_init_19 (ws' := [[(a, .inr (4, [.int 0, .ref r_0, .ref r_1, .null, .int 0, .null, .int 0, .null, .null, .null, .int 0, .int 0, .int 0, .int 0, .int 0]))], rwC r_0 cI 129 (fun _ => 0), rwC r_1 cI 129 (fun _ => 0)].flatten) rfl (fun H locs hP hD hS => ?_)
  refine lv_aload_n hx hb dX6_init_22 rfl (lv_at hl 0 rfl) ?_
  refine lv_sipush (v := 129) hx hb dX6_init_23 (by decide) ?_
  refine cn_newi X hP hD hS hA 129 (by decide) (by decide) (by decide) (Nat.le_of_ble_eq_true rfl) (Nat.le_of_ble_eq_true rfl) dX6_init_26 (fun r_2 H hP hD hS => ?_)
  have hP : va_P G classes [[(a, .inr (4, [.int 0, .ref r_0, .ref r_1, .null, .int 0, .null, .int 0, .null, .null, .null, .int 0, .int 0, .int 0, .int 0, .int 0]))], rwC r_0 cI 129 (fun _ => 0), rwC r_1 cI 129 (fun _ => 0), rwC r_2 cI 129 (fun _ => 0)].flatten H := hP
  have hD : va_D A [[(a, .inr (4, [.int 0, .ref r_0, .ref r_1, .null, .int 0, .null, .int 0, .null, .null, .null, .int 0, .int 0, .int 0, .int 0, .int 0]))], rwC r_0 cI 129 (fun _ => 0), rwC r_1 cI 129 (fun _ => 0), rwC r_2 cI 129 (fun _ => 0)].flatten := hD
  refine nv_putF (D := G) (ci := 4) (ty := (.array .int)) (v := .ref r_2) (C := RX6) (T := TX6) (N := 15) hx hb hw in_X6 tyX6 tyX6_ok nmX6 hown hK hP hD hS 0 rfl rfl 3 (by decide) (hw _ aw_874) (fun _ h9 => h9) rfl (by rw [hin]; rfl) rfl (by decide +kernel) rfl rfl (Nat.le_of_ble_eq_true rfl) dX6_init_28 (ws' := [[(a, .inr (4, [.int 0, .ref r_0, .ref r_1, .ref r_2, .int 0, .null, .int 0, .null, .null, .null, .int 0, .int 0, .int 0, .int 0, .int 0]))], rwC r_0 cI 129 (fun _ => 0), rwC r_1 cI 129 (fun _ => 0), rwC r_2 cI 129 (fun _ => 0)].flatten) rfl (fun H locs hP hD hS => ?_)
  refine lv_aload_n hx hb dX6_init_31 rfl (lv_at hl 0 rfl) ?_
  refine lv_sipush (v := 774) hx hb dX6_init_32 (by decide) ?_
  refine cn_newi X hP hD hS hA 774 (by decide) (by decide) (by decide) (Nat.le_of_ble_eq_true rfl) (Nat.le_of_ble_eq_true rfl) dX6_init_35 (fun r_3 H hP hD hS => ?_)
  have hP : va_P G classes [[(a, .inr (4, [.int 0, .ref r_0, .ref r_1, .ref r_2, .int 0, .null, .int 0, .null, .null, .null, .int 0, .int 0, .int 0, .int 0, .int 0]))], rwC r_0 cI 129 (fun _ => 0), rwC r_1 cI 129 (fun _ => 0), rwC r_2 cI 129 (fun _ => 0), rwC r_3 cI 774 (fun _ => 0)].flatten H := hP
  have hD : va_D A [[(a, .inr (4, [.int 0, .ref r_0, .ref r_1, .ref r_2, .int 0, .null, .int 0, .null, .null, .null, .int 0, .int 0, .int 0, .int 0, .int 0]))], rwC r_0 cI 129 (fun _ => 0), rwC r_1 cI 129 (fun _ => 0), rwC r_2 cI 129 (fun _ => 0), rwC r_3 cI 774 (fun _ => 0)].flatten := hD
  refine nv_putF (D := G) (ci := 4) (ty := (.array .int)) (v := .ref r_3) (C := RX6) (T := TX6) (N := 15) hx hb hw in_X6 tyX6 tyX6_ok nmX6 hown hK hP hD hS 0 rfl rfl 5 (by decide) (hw _ aw_876) (fun _ h9 => h9) rfl (by rw [hin]; rfl) rfl (by decide +kernel) rfl rfl (Nat.le_of_ble_eq_true rfl) dX6_init_37 (ws' := [[(a, .inr (4, [.int 0, .ref r_0, .ref r_1, .ref r_2, .int 0, .ref r_3, .int 0, .null, .null, .null, .int 0, .int 0, .int 0, .int 0, .int 0]))], rwC r_0 cI 129 (fun _ => 0), rwC r_1 cI 129 (fun _ => 0), rwC r_2 cI 129 (fun _ => 0), rwC r_3 cI 774 (fun _ => 0)].flatten) rfl (fun H locs hP hD hS => ?_)
  refine lv_aload_n hx hb dX6_init_40 rfl (lv_at hl 0 rfl) ?_
  refine lv_bipush (v := 8) hx hb dX6_init_41 (by decide) ?_
  refine cn_newi X hP hD hS hA 8 (by decide) (by decide) (by decide) (Nat.le_of_ble_eq_true rfl) (Nat.le_of_ble_eq_true rfl) dX6_init_43 (fun r_4 H hP hD hS => ?_)
  have hP : va_P G classes [[(a, .inr (4, [.int 0, .ref r_0, .ref r_1, .ref r_2, .int 0, .ref r_3, .int 0, .null, .null, .null, .int 0, .int 0, .int 0, .int 0, .int 0]))], rwC r_0 cI 129 (fun _ => 0), rwC r_1 cI 129 (fun _ => 0), rwC r_2 cI 129 (fun _ => 0), rwC r_3 cI 774 (fun _ => 0), rwC r_4 cI 8 (fun _ => 0)].flatten H := hP
  have hD : va_D A [[(a, .inr (4, [.int 0, .ref r_0, .ref r_1, .ref r_2, .int 0, .ref r_3, .int 0, .null, .null, .null, .int 0, .int 0, .int 0, .int 0, .int 0]))], rwC r_0 cI 129 (fun _ => 0), rwC r_1 cI 129 (fun _ => 0), rwC r_2 cI 129 (fun _ => 0), rwC r_3 cI 774 (fun _ => 0), rwC r_4 cI 8 (fun _ => 0)].flatten := hD
  refine nv_putF (D := G) (ci := 4) (ty := (.array .int)) (v := .ref r_4) (C := RX6) (T := TX6) (N := 15) hx hb hw in_X6 tyX6 tyX6_ok nmX6 hown hK hP hD hS 0 rfl rfl 7 (by decide) (hw _ aw_878) (fun _ h9 => h9) rfl (by rw [hin]; rfl) rfl (by decide +kernel) rfl rfl (Nat.le_of_ble_eq_true rfl) dX6_init_45 (ws' := [[(a, .inr (4, [.int 0, .ref r_0, .ref r_1, .ref r_2, .int 0, .ref r_3, .int 0, .ref r_4, .null, .null, .int 0, .int 0, .int 0, .int 0, .int 0]))], rwC r_0 cI 129 (fun _ => 0), rwC r_1 cI 129 (fun _ => 0), rwC r_2 cI 129 (fun _ => 0), rwC r_3 cI 774 (fun _ => 0), rwC r_4 cI 8 (fun _ => 0)].flatten) rfl (fun H locs hP hD hS => ?_)
  refine lv_aload_n hx hb dX6_init_48 rfl (lv_at hl 0 rfl) ?_
  refine lv_bipush (v := 8) hx hb dX6_init_49 (by decide) ?_
  refine cn_newi X hP hD hS hA 8 (by decide) (by decide) (by decide) (Nat.le_of_ble_eq_true rfl) (Nat.le_of_ble_eq_true rfl) dX6_init_51 (fun r_5 H hP hD hS => ?_)
  have hP : va_P G classes [[(a, .inr (4, [.int 0, .ref r_0, .ref r_1, .ref r_2, .int 0, .ref r_3, .int 0, .ref r_4, .null, .null, .int 0, .int 0, .int 0, .int 0, .int 0]))], rwC r_0 cI 129 (fun _ => 0), rwC r_1 cI 129 (fun _ => 0), rwC r_2 cI 129 (fun _ => 0), rwC r_3 cI 774 (fun _ => 0), rwC r_4 cI 8 (fun _ => 0), rwC r_5 cI 8 (fun _ => 0)].flatten H := hP
  have hD : va_D A [[(a, .inr (4, [.int 0, .ref r_0, .ref r_1, .ref r_2, .int 0, .ref r_3, .int 0, .ref r_4, .null, .null, .int 0, .int 0, .int 0, .int 0, .int 0]))], rwC r_0 cI 129 (fun _ => 0), rwC r_1 cI 129 (fun _ => 0), rwC r_2 cI 129 (fun _ => 0), rwC r_3 cI 774 (fun _ => 0), rwC r_4 cI 8 (fun _ => 0), rwC r_5 cI 8 (fun _ => 0)].flatten := hD
  refine nv_putF (D := G) (ci := 4) (ty := (.array .int)) (v := .ref r_5) (C := RX6) (T := TX6) (N := 15) hx hb hw in_X6 tyX6 tyX6_ok nmX6 hown hK hP hD hS 0 rfl rfl 8 (by decide) (hw _ aw_879) (fun _ h9 => h9) rfl (by rw [hin]; rfl) rfl (by decide +kernel) rfl rfl (Nat.le_of_ble_eq_true rfl) dX6_init_53 (ws' := [[(a, .inr (4, [.int 0, .ref r_0, .ref r_1, .ref r_2, .int 0, .ref r_3, .int 0, .ref r_4, .ref r_5, .null, .int 0, .int 0, .int 0, .int 0, .int 0]))], rwC r_0 cI 129 (fun _ => 0), rwC r_1 cI 129 (fun _ => 0), rwC r_2 cI 129 (fun _ => 0), rwC r_3 cI 774 (fun _ => 0), rwC r_4 cI 8 (fun _ => 0), rwC r_5 cI 8 (fun _ => 0)].flatten) rfl (fun H locs hP hD hS => ?_)
  refine lv_aload_n hx hb dX6_init_56 rfl (lv_at hl 0 rfl) ?_
  refine lv_bipush (v := 60) hx hb dX6_init_57 (by decide) ?_
  refine cn_newi X hP hD hS hA 60 (by decide) (by decide) (by decide) (Nat.le_of_ble_eq_true rfl) (Nat.le_of_ble_eq_true rfl) dX6_init_59 (fun r_6 H hP hD hS => ?_)
  have hP : va_P G classes [[(a, .inr (4, [.int 0, .ref r_0, .ref r_1, .ref r_2, .int 0, .ref r_3, .int 0, .ref r_4, .ref r_5, .null, .int 0, .int 0, .int 0, .int 0, .int 0]))], rwC r_0 cI 129 (fun _ => 0), rwC r_1 cI 129 (fun _ => 0), rwC r_2 cI 129 (fun _ => 0), rwC r_3 cI 774 (fun _ => 0), rwC r_4 cI 8 (fun _ => 0), rwC r_5 cI 8 (fun _ => 0), rwC r_6 cI 60 (fun _ => 0)].flatten H := hP
  have hD : va_D A [[(a, .inr (4, [.int 0, .ref r_0, .ref r_1, .ref r_2, .int 0, .ref r_3, .int 0, .ref r_4, .ref r_5, .null, .int 0, .int 0, .int 0, .int 0, .int 0]))], rwC r_0 cI 129 (fun _ => 0), rwC r_1 cI 129 (fun _ => 0), rwC r_2 cI 129 (fun _ => 0), rwC r_3 cI 774 (fun _ => 0), rwC r_4 cI 8 (fun _ => 0), rwC r_5 cI 8 (fun _ => 0), rwC r_6 cI 60 (fun _ => 0)].flatten := hD
  refine nv_putF (D := G) (ci := 4) (ty := (.array .int)) (v := .ref r_6) (C := RX6) (T := TX6) (N := 15) hx hb hw in_X6 tyX6 tyX6_ok nmX6 hown hK hP hD hS 0 rfl rfl 9 (by decide) (hw _ aw_880) (fun _ h9 => h9) rfl (by rw [hin]; rfl) rfl (by decide +kernel) rfl rfl (Nat.le_of_ble_eq_true rfl) dX6_init_61 (ws' := [[(a, .inr (4, [.int 0, .ref r_0, .ref r_1, .ref r_2, .int 0, .ref r_3, .int 0, .ref r_4, .ref r_5, .ref r_6, .int 0, .int 0, .int 0, .int 0, .int 0]))], rwC r_0 cI 129 (fun _ => 0), rwC r_1 cI 129 (fun _ => 0), rwC r_2 cI 129 (fun _ => 0), rwC r_3 cI 774 (fun _ => 0), rwC r_4 cI 8 (fun _ => 0), rwC r_5 cI 8 (fun _ => 0), rwC r_6 cI 60 (fun _ => 0)].flatten) rfl (fun H locs hP hD hS => ?_)
  refine lv_iconst (v := 0) hx hb dX6_init_64 (by decide) ?_
  refine lv_istore_n (lv' := [(1, .int (0 : Int32)), (0, .ref a)]) hx hb dX6_init_65 rfl hl (by decide) rfl (fun ls hl => ?_)
  refine lv_iload_n hx hb dX6_init_66 rfl (lv_at hl 0 rfl) ?_
  refine lv_iconst (v := 3) hx hb dX6_init_67 (by decide) ?_
  refine nv_ge hx hb 0 3 86 (by decide) (by decide) dX6_init_68 (by decide) (fun c => absurd c (by decide)) (fun _ => ?_)
  refine lv_aload_n hx hb dX6_init_71 rfl (lv_at hl 1 rfl) ?_
  refine va_get (D := G) (ci := 4) (C := RX6) (T := TX6) (N := 15) hx hb hw in_X6 hown hK hP 0 rfl rfl 1 (by decide) (hw _ aw_872) (fun _ h9 => h9) rfl dX6_init_72 ?_
  refine lv_iconst (v := 0) hx hb dX6_init_75 (by decide) ?_
  refine lv_iload_n hx hb dX6_init_76 rfl (lv_at hl 0 rfl) ?_
  refine lv_iadd hx hb dX6_init_77 ?_
  refine W.eq (g2 := F0 m 78 ls [.int (0 : Int32), .ref r_0]) rfl ?_
  refine lv_iconst (v := 4) hx hb dX6_init_78 (by decide) ?_
  refine nv_iast hx hb hK hP hD hS 1 0 rfl rfl 0 (by decide) (by decide) dX6_init_79 (ws' := [[(a, .inr (4, [.int 0, .ref r_0, .ref r_1, .ref r_2, .int 0, .ref r_3, .int 0, .ref r_4, .ref r_5, .ref r_6, .int 0, .int 0, .int 0, .int 0, .int 0]))], rwC r_0 cI 129 (upd (fun _ => 0) 0 (4 : Int32)), rwC r_1 cI 129 (fun _ => 0), rwC r_2 cI 129 (fun _ => 0), rwC r_3 cI 774 (fun _ => 0), rwC r_4 cI 8 (fun _ => 0), rwC r_5 cI 8 (fun _ => 0), rwC r_6 cI 60 (fun _ => 0)].flatten) rfl (fun H locs hP hD hS => ?_)
  refine lv_iinc (v := 1) (k := 0) (lv' := [(1, .int (1 : Int32)), (0, .ref a)]) hx hb dX6_init_80 hl rfl rfl (by decide) rfl (fun ls hl => ?_)
  refine lv_goto (tgt := 66) hx hb dX6_init_83 (by decide) ?_
  refine lv_iload_n hx hb dX6_init_66 rfl (lv_at hl 0 rfl) ?_
  refine lv_iconst (v := 3) hx hb dX6_init_67 (by decide) ?_
  refine nv_ge hx hb 1 3 86 (by decide) (by decide) dX6_init_68 (by decide) (fun c => absurd c (by decide)) (fun _ => ?_)
  refine lv_aload_n hx hb dX6_init_71 rfl (lv_at hl 1 rfl) ?_
  refine va_get (D := G) (ci := 4) (C := RX6) (T := TX6) (N := 15) hx hb hw in_X6 hown hK hP 0 rfl rfl 1 (by decide) (hw _ aw_872) (fun _ h9 => h9) rfl dX6_init_72 ?_
  refine lv_iconst (v := 0) hx hb dX6_init_75 (by decide) ?_
  refine lv_iload_n hx hb dX6_init_76 rfl (lv_at hl 0 rfl) ?_
  refine lv_iadd hx hb dX6_init_77 ?_
  refine W.eq (g2 := F0 m 78 ls [.int (1 : Int32), .ref r_0]) rfl ?_
  refine lv_iconst (v := 4) hx hb dX6_init_78 (by decide) ?_
  refine nv_iast hx hb hK hP hD hS 1 0 rfl rfl 1 (by decide) (by decide) dX6_init_79 (ws' := [[(a, .inr (4, [.int 0, .ref r_0, .ref r_1, .ref r_2, .int 0, .ref r_3, .int 0, .ref r_4, .ref r_5, .ref r_6, .int 0, .int 0, .int 0, .int 0, .int 0]))], rwC r_0 cI 129 (upd (upd (fun _ => 0) 0 (4 : Int32)) 1 (4 : Int32)), rwC r_1 cI 129 (fun _ => 0), rwC r_2 cI 129 (fun _ => 0), rwC r_3 cI 774 (fun _ => 0), rwC r_4 cI 8 (fun _ => 0), rwC r_5 cI 8 (fun _ => 0), rwC r_6 cI 60 (fun _ => 0)].flatten) rfl (fun H locs hP hD hS => ?_)
  refine lv_iinc (v := 2) (k := 0) (lv' := [(1, .int (2 : Int32)), (0, .ref a)]) hx hb dX6_init_80 hl rfl rfl (by decide) rfl (fun ls hl => ?_)
  refine lv_goto (tgt := 66) hx hb dX6_init_83 (by decide) ?_
  refine lv_iload_n hx hb dX6_init_66 rfl (lv_at hl 0 rfl) ?_
  refine lv_iconst (v := 3) hx hb dX6_init_67 (by decide) ?_
  refine nv_ge hx hb 2 3 86 (by decide) (by decide) dX6_init_68 (by decide) (fun c => absurd c (by decide)) (fun _ => ?_)
  refine lv_aload_n hx hb dX6_init_71 rfl (lv_at hl 1 rfl) ?_
  refine va_get (D := G) (ci := 4) (C := RX6) (T := TX6) (N := 15) hx hb hw in_X6 hown hK hP 0 rfl rfl 1 (by decide) (hw _ aw_872) (fun _ h9 => h9) rfl dX6_init_72 ?_
  refine lv_iconst (v := 0) hx hb dX6_init_75 (by decide) ?_
  refine lv_iload_n hx hb dX6_init_76 rfl (lv_at hl 0 rfl) ?_
  refine lv_iadd hx hb dX6_init_77 ?_
  refine W.eq (g2 := F0 m 78 ls [.int (2 : Int32), .ref r_0]) rfl ?_
  refine lv_iconst (v := 4) hx hb dX6_init_78 (by decide) ?_
  refine nv_iast hx hb hK hP hD hS 1 0 rfl rfl 2 (by decide) (by decide) dX6_init_79 (ws' := [[(a, .inr (4, [.int 0, .ref r_0, .ref r_1, .ref r_2, .int 0, .ref r_3, .int 0, .ref r_4, .ref r_5, .ref r_6, .int 0, .int 0, .int 0, .int 0, .int 0]))], rwC r_0 cI 129 (upd (upd (upd (fun _ => 0) 0 (4 : Int32)) 1 (4 : Int32)) 2 (4 : Int32)), rwC r_1 cI 129 (fun _ => 0), rwC r_2 cI 129 (fun _ => 0), rwC r_3 cI 774 (fun _ => 0), rwC r_4 cI 8 (fun _ => 0), rwC r_5 cI 8 (fun _ => 0), rwC r_6 cI 60 (fun _ => 0)].flatten) rfl (fun H locs hP hD hS => ?_)
  refine lv_iinc (v := 3) (k := 0) (lv' := [(1, .int (3 : Int32)), (0, .ref a)]) hx hb dX6_init_80 hl rfl rfl (by decide) rfl (fun ls hl => ?_)
  refine lv_goto (tgt := 66) hx hb dX6_init_83 (by decide) ?_
  refine lv_iload_n hx hb dX6_init_66 rfl (lv_at hl 0 rfl) ?_
  refine lv_iconst (v := 3) hx hb dX6_init_67 (by decide) ?_
  refine nv_ge hx hb 3 3 86 (by decide) (by decide) dX6_init_68 (by decide) (fun _ => ?_) (fun c => absurd (by decide) c)
  refine lv_aload_n hx hb dX6_init_86 rfl (lv_at hl 1 rfl) ?_
  refine va_get (D := G) (ci := 4) (C := RX6) (T := TX6) (N := 15) hx hb hw in_X6 hown hK hP 0 rfl rfl 1 (by decide) (hw _ aw_872) (fun _ h9 => h9) rfl dX6_init_87 ?_
  refine lv_iconst (v := 3) hx hb dX6_init_90 (by decide) ?_
  refine lv_bipush (v := 9) hx hb dX6_init_91 (by decide) ?_
  refine nv_iast hx hb hK hP hD hS 1 0 rfl rfl 3 (by decide) (by decide) dX6_init_93 (ws' := [[(a, .inr (4, [.int 0, .ref r_0, .ref r_1, .ref r_2, .int 0, .ref r_3, .int 0, .ref r_4, .ref r_5, .ref r_6, .int 0, .int 0, .int 0, .int 0, .int 0]))], rwC r_0 cI 129 (upd (upd (upd (upd (fun _ => 0) 0 (4 : Int32)) 1 (4 : Int32)) 2 (4 : Int32)) 3 (9 : Int32)), rwC r_1 cI 129 (fun _ => 0), rwC r_2 cI 129 (fun _ => 0), rwC r_3 cI 774 (fun _ => 0), rwC r_4 cI 8 (fun _ => 0), rwC r_5 cI 8 (fun _ => 0), rwC r_6 cI 60 (fun _ => 0)].flatten) rfl (fun H locs hP hD hS => ?_)
  refine lv_aload_n hx hb dX6_init_94 rfl (lv_at hl 1 rfl) ?_
  refine va_get (D := G) (ci := 4) (C := RX6) (T := TX6) (N := 15) hx hb hw in_X6 hown hK hP 0 rfl rfl 1 (by decide) (hw _ aw_872) (fun _ h9 => h9) rfl dX6_init_95 ?_
  refine lv_iconst (v := 4) hx hb dX6_init_98 (by decide) ?_
  refine lv_bipush (v := 40) hx hb dX6_init_99 (by decide) ?_
  refine nv_iast hx hb hK hP hD hS 1 0 rfl rfl 4 (by decide) (by decide) dX6_init_101 (ws' := [[(a, .inr (4, [.int 0, .ref r_0, .ref r_1, .ref r_2, .int 0, .ref r_3, .int 0, .ref r_4, .ref r_5, .ref r_6, .int 0, .int 0, .int 0, .int 0, .int 0]))], rwC r_0 cI 129 (upd (upd (upd (upd (upd (fun _ => 0) 0 (4 : Int32)) 1 (4 : Int32)) 2 (4 : Int32)) 3 (9 : Int32)) 4 (40 : Int32)), rwC r_1 cI 129 (fun _ => 0), rwC r_2 cI 129 (fun _ => 0), rwC r_3 cI 774 (fun _ => 0), rwC r_4 cI 8 (fun _ => 0), rwC r_5 cI 8 (fun _ => 0), rwC r_6 cI 60 (fun _ => 0)].flatten) rfl (fun H locs hP hD hS => ?_)
  refine lv_aload_n hx hb dX6_init_102 rfl (lv_at hl 1 rfl) ?_
  refine va_get (D := G) (ci := 4) (C := RX6) (T := TX6) (N := 15) hx hb hw in_X6 hown hK hP 0 rfl rfl 1 (by decide) (hw _ aw_872) (fun _ h9 => h9) rfl dX6_init_103 ?_
  refine lv_iconst (v := 5) hx hb dX6_init_106 (by decide) ?_
  refine lv_bipush (v := 8) hx hb dX6_init_107 (by decide) ?_
  refine nv_iast hx hb hK hP hD hS 1 0 rfl rfl 5 (by decide) (by decide) dX6_init_109 (ws' := [[(a, .inr (4, [.int 0, .ref r_0, .ref r_1, .ref r_2, .int 0, .ref r_3, .int 0, .ref r_4, .ref r_5, .ref r_6, .int 0, .int 0, .int 0, .int 0, .int 0]))], rwC r_0 cI 129 (upd (upd (upd (upd (upd (upd (fun _ => 0) 0 (4 : Int32)) 1 (4 : Int32)) 2 (4 : Int32)) 3 (9 : Int32)) 4 (40 : Int32)) 5 (8 : Int32)), rwC r_1 cI 129 (fun _ => 0), rwC r_2 cI 129 (fun _ => 0), rwC r_3 cI 774 (fun _ => 0), rwC r_4 cI 8 (fun _ => 0), rwC r_5 cI 8 (fun _ => 0), rwC r_6 cI 60 (fun _ => 0)].flatten) rfl (fun H locs hP hD hS => ?_)
  refine lv_iconst (v := 0) hx hb dX6_init_110 (by decide) ?_
  refine lv_istore_n (lv' := [(1, .int (0 : Int32)), (0, .ref a)]) hx hb dX6_init_111 rfl hl (by decide) rfl (fun ls hl => ?_)
  refine lv_iload_n hx hb dX6_init_112 rfl (lv_at hl 0 rfl) ?_
  refine lv_bipush (v := 8) hx hb dX6_init_113 (by decide) ?_
  refine nv_ge hx hb 0 8 177 (by decide) (by decide) dX6_init_115 (by decide) (fun c => absurd c (by decide)) (fun _ => ?_)
  refine lv_bipush (v := 6) hx hb dX6_init_118 (by decide) ?_
  refine lv_bipush (v := 7) hx hb dX6_init_120 (by decide) ?_
  refine lv_iload_n hx hb dX6_init_122 rfl (lv_at hl 0 rfl) ?_
  refine lv_imul hx hb dX6_init_123 ?_
  refine W.eq (g2 := F0 m 124 ls [.int (0 : Int32), .int (6 : Int32)]) rfl ?_
  refine lv_iadd hx hb dX6_init_124 ?_
  refine W.eq (g2 := F0 m 125 ls [.int (6 : Int32)]) rfl ?_
  refine lv_istore_n (lv' := [(2, .int (6 : Int32)), (1, .int (0 : Int32)), (0, .ref a)]) hx hb dX6_init_125 rfl hl (by decide) rfl (fun ls hl => ?_)
  refine lv_aload_n hx hb dX6_init_126 rfl (lv_at hl 2 rfl) ?_
  refine va_get (D := G) (ci := 4) (C := RX6) (T := TX6) (N := 15) hx hb hw in_X6 hown hK hP 0 rfl rfl 1 (by decide) (hw _ aw_872) (fun _ h9 => h9) rfl dX6_init_127 ?_
  refine lv_iload_n hx hb dX6_init_130 rfl (lv_at hl 0 rfl) ?_
  refine lv_iconst (v := 0) hx hb dX6_init_131 (by decide) ?_
  refine lv_iadd hx hb dX6_init_132 ?_
  refine W.eq (g2 := F0 m 133 ls [.int (6 : Int32), .ref r_0]) rfl ?_
  refine lv_iload_n hx hb dX6_init_133 rfl (lv_at hl 1 rfl) ?_
  refine lv_iconst (v := 3) hx hb dX6_init_134 (by decide) ?_
  refine lv_irem hx hb dX6_init_135 (by decide) ?_
  refine W.eq (g2 := F0 m 136 ls [.int (0 : Int32), .int (6 : Int32), .ref r_0]) rfl ?_
  refine nv_iast hx hb hK hP hD hS 1 0 rfl rfl 6 (by decide) (by decide) dX6_init_136 (ws' := [[(a, .inr (4, [.int 0, .ref r_0, .ref r_1, .ref r_2, .int 0, .ref r_3, .int 0, .ref r_4, .ref r_5, .ref r_6, .int 0, .int 0, .int 0, .int 0, .int 0]))], rwC r_0 cI 129 (upd (upd (upd (upd (upd (upd (upd (fun _ => 0) 0 (4 : Int32)) 1 (4 : Int32)) 2 (4 : Int32)) 3 (9 : Int32)) 4 (40 : Int32)) 5 (8 : Int32)) 6 (0 : Int32)), rwC r_1 cI 129 (fun _ => 0), rwC r_2 cI 129 (fun _ => 0), rwC r_3 cI 774 (fun _ => 0), rwC r_4 cI 8 (fun _ => 0), rwC r_5 cI 8 (fun _ => 0), rwC r_6 cI 60 (fun _ => 0)].flatten) rfl (fun H locs hP hD hS => ?_)
  refine lv_aload_n hx hb dX6_init_137 rfl (lv_at hl 2 rfl) ?_
  refine va_get (D := G) (ci := 4) (C := RX6) (T := TX6) (N := 15) hx hb hw in_X6 hown hK hP 0 rfl rfl 1 (by decide) (hw _ aw_872) (fun _ h9 => h9) rfl dX6_init_138 ?_
  refine lv_iload_n hx hb dX6_init_141 rfl (lv_at hl 0 rfl) ?_
  refine lv_iconst (v := 1) hx hb dX6_init_142 (by decide) ?_
  refine lv_iadd hx hb dX6_init_143 ?_
  refine W.eq (g2 := F0 m 144 ls [.int (7 : Int32), .ref r_0]) rfl ?_
  refine lv_bipush (v := 30) hx hb dX6_init_144 (by decide) ?_
  refine lv_iload_n hx hb dX6_init_146 rfl (lv_at hl 1 rfl) ?_
  refine lv_iadd hx hb dX6_init_147 ?_
  refine W.eq (g2 := F0 m 148 ls [.int (30 : Int32), .int (7 : Int32), .ref r_0]) rfl ?_
  refine nv_iast hx hb hK hP hD hS 1 0 rfl rfl 7 (by decide) (by decide) dX6_init_148 (ws' := [[(a, .inr (4, [.int 0, .ref r_0, .ref r_1, .ref r_2, .int 0, .ref r_3, .int 0, .ref r_4, .ref r_5, .ref r_6, .int 0, .int 0, .int 0, .int 0, .int 0]))], rwC r_0 cI 129 (upd (upd (upd (upd (upd (upd (upd (upd (fun _ => 0) 0 (4 : Int32)) 1 (4 : Int32)) 2 (4 : Int32)) 3 (9 : Int32)) 4 (40 : Int32)) 5 (8 : Int32)) 6 (0 : Int32)) 7 (30 : Int32)), rwC r_1 cI 129 (fun _ => 0), rwC r_2 cI 129 (fun _ => 0), rwC r_3 cI 774 (fun _ => 0), rwC r_4 cI 8 (fun _ => 0), rwC r_5 cI 8 (fun _ => 0), rwC r_6 cI 60 (fun _ => 0)].flatten) rfl (fun H locs hP hD hS => ?_)
  refine lv_aload_n hx hb dX6_init_149 rfl (lv_at hl 2 rfl) ?_
  refine va_get (D := G) (ci := 4) (C := RX6) (T := TX6) (N := 15) hx hb hw in_X6 hown hK hP 0 rfl rfl 1 (by decide) (hw _ aw_872) (fun _ h9 => h9) rfl dX6_init_150 ?_
  refine lv_iload_n hx hb dX6_init_153 rfl (lv_at hl 0 rfl) ?_
  refine lv_iconst (v := 2) hx hb dX6_init_154 (by decide) ?_
  refine lv_iadd hx hb dX6_init_155 ?_
  refine W.eq (g2 := F0 m 156 ls [.int (8 : Int32), .ref r_0]) rfl ?_
  refine lv_bipush (v := 100) hx hb dX6_init_156 (by decide) ?_
  refine lv_iload_n hx hb dX6_init_158 rfl (lv_at hl 1 rfl) ?_
  refine lv_imul hx hb dX6_init_159 ?_
  refine W.eq (g2 := F0 m 160 ls [.int (0 : Int32), .int (8 : Int32), .ref r_0]) rfl ?_
  refine nv_iast hx hb hK hP hD hS 1 0 rfl rfl 8 (by decide) (by decide) dX6_init_160 (ws' := [[(a, .inr (4, [.int 0, .ref r_0, .ref r_1, .ref r_2, .int 0, .ref r_3, .int 0, .ref r_4, .ref r_5, .ref r_6, .int 0, .int 0, .int 0, .int 0, .int 0]))], rwC r_0 cI 129 (upd (upd (upd (upd (upd (upd (upd (upd (upd (fun _ => 0) 0 (4 : Int32)) 1 (4 : Int32)) 2 (4 : Int32)) 3 (9 : Int32)) 4 (40 : Int32)) 5 (8 : Int32)) 6 (0 : Int32)) 7 (30 : Int32)) 8 (0 : Int32)), rwC r_1 cI 129 (fun _ => 0), rwC r_2 cI 129 (fun _ => 0), rwC r_3 cI 774 (fun _ => 0), rwC r_4 cI 8 (fun _ => 0), rwC r_5 cI 8 (fun _ => 0), rwC r_6 cI 60 (fun _ => 0)].flatten) rfl (fun H locs hP hD hS => ?_)
  refine lv_aload_n hx hb dX6_init_161 rfl (lv_at hl 2 rfl) ?_
  refine va_get (D := G) (ci := 4) (C := RX6) (T := TX6) (N := 15) hx hb hw in_X6 hown hK hP 0 rfl rfl 1 (by decide) (hw _ aw_872) (fun _ h9 => h9) rfl dX6_init_162 ?_
  refine lv_iload_n hx hb dX6_init_165 rfl (lv_at hl 0 rfl) ?_
  refine lv_iconst (v := 3) hx hb dX6_init_166 (by decide) ?_
  refine lv_iadd hx hb dX6_init_167 ?_
  refine W.eq (g2 := F0 m 168 ls [.int (9 : Int32), .ref r_0]) rfl ?_
  refine lv_bipush (v := 50) hx hb dX6_init_168 (by decide) ?_
  refine nv_iast hx hb hK hP hD hS 1 0 rfl rfl 9 (by decide) (by decide) dX6_init_170 (ws' := [[(a, .inr (4, [.int 0, .ref r_0, .ref r_1, .ref r_2, .int 0, .ref r_3, .int 0, .ref r_4, .ref r_5, .ref r_6, .int 0, .int 0, .int 0, .int 0, .int 0]))], rwC r_0 cI 129 (upd (upd (upd (upd (upd (upd (upd (upd (upd (upd (fun _ => 0) 0 (4 : Int32)) 1 (4 : Int32)) 2 (4 : Int32)) 3 (9 : Int32)) 4 (40 : Int32)) 5 (8 : Int32)) 6 (0 : Int32)) 7 (30 : Int32)) 8 (0 : Int32)) 9 (50 : Int32)), rwC r_1 cI 129 (fun _ => 0), rwC r_2 cI 129 (fun _ => 0), rwC r_3 cI 774 (fun _ => 0), rwC r_4 cI 8 (fun _ => 0), rwC r_5 cI 8 (fun _ => 0), rwC r_6 cI 60 (fun _ => 0)].flatten) rfl (fun H locs hP hD hS => ?_)
  refine lv_iinc (v := 1) (k := 1) (lv' := [(1, .int (1 : Int32)), (2, .int (6 : Int32)), (0, .ref a)]) hx hb dX6_init_171 hl rfl rfl (by decide) rfl (fun ls hl => ?_)
  refine lv_goto (tgt := 112) hx hb dX6_init_174 (by decide) ?_
  refine lv_iload_n hx hb dX6_init_112 rfl (lv_at hl 0 rfl) ?_
  refine lv_bipush (v := 8) hx hb dX6_init_113 (by decide) ?_
  refine nv_ge hx hb 1 8 177 (by decide) (by decide) dX6_init_115 (by decide) (fun c => absurd c (by decide)) (fun _ => ?_)
  refine lv_bipush (v := 6) hx hb dX6_init_118 (by decide) ?_
  refine lv_bipush (v := 7) hx hb dX6_init_120 (by decide) ?_
  refine lv_iload_n hx hb dX6_init_122 rfl (lv_at hl 0 rfl) ?_
  refine lv_imul hx hb dX6_init_123 ?_
  refine W.eq (g2 := F0 m 124 ls [.int (7 : Int32), .int (6 : Int32)]) rfl ?_
  refine lv_iadd hx hb dX6_init_124 ?_
  refine W.eq (g2 := F0 m 125 ls [.int (13 : Int32)]) rfl ?_
  refine lv_istore_n (lv' := [(2, .int (13 : Int32)), (1, .int (1 : Int32)), (0, .ref a)]) hx hb dX6_init_125 rfl hl (by decide) rfl (fun ls hl => ?_)
  refine lv_aload_n hx hb dX6_init_126 rfl (lv_at hl 2 rfl) ?_
  refine va_get (D := G) (ci := 4) (C := RX6) (T := TX6) (N := 15) hx hb hw in_X6 hown hK hP 0 rfl rfl 1 (by decide) (hw _ aw_872) (fun _ h9 => h9) rfl dX6_init_127 ?_
  refine lv_iload_n hx hb dX6_init_130 rfl (lv_at hl 0 rfl) ?_
  refine lv_iconst (v := 0) hx hb dX6_init_131 (by decide) ?_
  refine lv_iadd hx hb dX6_init_132 ?_
  refine W.eq (g2 := F0 m 133 ls [.int (13 : Int32), .ref r_0]) rfl ?_
  refine lv_iload_n hx hb dX6_init_133 rfl (lv_at hl 1 rfl) ?_
  refine lv_iconst (v := 3) hx hb dX6_init_134 (by decide) ?_
  refine lv_irem hx hb dX6_init_135 (by decide) ?_
  refine W.eq (g2 := F0 m 136 ls [.int (1 : Int32), .int (13 : Int32), .ref r_0]) rfl ?_
  refine nv_iast hx hb hK hP hD hS 1 0 rfl rfl 13 (by decide) (by decide) dX6_init_136 (ws' := [[(a, .inr (4, [.int 0, .ref r_0, .ref r_1, .ref r_2, .int 0, .ref r_3, .int 0, .ref r_4, .ref r_5, .ref r_6, .int 0, .int 0, .int 0, .int 0, .int 0]))], rwC r_0 cI 129 (upd (upd (upd (upd (upd (upd (upd (upd (upd (upd (upd (fun _ => 0) 0 (4 : Int32)) 1 (4 : Int32)) 2 (4 : Int32)) 3 (9 : Int32)) 4 (40 : Int32)) 5 (8 : Int32)) 6 (0 : Int32)) 7 (30 : Int32)) 8 (0 : Int32)) 9 (50 : Int32)) 13 (1 : Int32)), rwC r_1 cI 129 (fun _ => 0), rwC r_2 cI 129 (fun _ => 0), rwC r_3 cI 774 (fun _ => 0), rwC r_4 cI 8 (fun _ => 0), rwC r_5 cI 8 (fun _ => 0), rwC r_6 cI 60 (fun _ => 0)].flatten) rfl (fun H locs hP hD hS => ?_)
  refine lv_aload_n hx hb dX6_init_137 rfl (lv_at hl 2 rfl) ?_
  refine va_get (D := G) (ci := 4) (C := RX6) (T := TX6) (N := 15) hx hb hw in_X6 hown hK hP 0 rfl rfl 1 (by decide) (hw _ aw_872) (fun _ h9 => h9) rfl dX6_init_138 ?_
  refine lv_iload_n hx hb dX6_init_141 rfl (lv_at hl 0 rfl) ?_
  refine lv_iconst (v := 1) hx hb dX6_init_142 (by decide) ?_
  refine lv_iadd hx hb dX6_init_143 ?_
  refine W.eq (g2 := F0 m 144 ls [.int (14 : Int32), .ref r_0]) rfl ?_
  refine lv_bipush (v := 30) hx hb dX6_init_144 (by decide) ?_
  refine lv_iload_n hx hb dX6_init_146 rfl (lv_at hl 1 rfl) ?_
  refine lv_iadd hx hb dX6_init_147 ?_
  refine W.eq (g2 := F0 m 148 ls [.int (31 : Int32), .int (14 : Int32), .ref r_0]) rfl ?_
  refine nv_iast hx hb hK hP hD hS 1 0 rfl rfl 14 (by decide) (by decide) dX6_init_148 (ws' := [[(a, .inr (4, [.int 0, .ref r_0, .ref r_1, .ref r_2, .int 0, .ref r_3, .int 0, .ref r_4, .ref r_5, .ref r_6, .int 0, .int 0, .int 0, .int 0, .int 0]))], rwC r_0 cI 129 (upd (upd (upd (upd (upd (upd (upd (upd (upd (upd (upd (upd (fun _ => 0) 0 (4 : Int32)) 1 (4 : Int32)) 2 (4 : Int32)) 3 (9 : Int32)) 4 (40 : Int32)) 5 (8 : Int32)) 6 (0 : Int32)) 7 (30 : Int32)) 8 (0 : Int32)) 9 (50 : Int32)) 13 (1 : Int32)) 14 (31 : Int32)), rwC r_1 cI 129 (fun _ => 0), rwC r_2 cI 129 (fun _ => 0), rwC r_3 cI 774 (fun _ => 0), rwC r_4 cI 8 (fun _ => 0), rwC r_5 cI 8 (fun _ => 0), rwC r_6 cI 60 (fun _ => 0)].flatten) rfl (fun H locs hP hD hS => ?_)
  refine lv_aload_n hx hb dX6_init_149 rfl (lv_at hl 2 rfl) ?_
  refine va_get (D := G) (ci := 4) (C := RX6) (T := TX6) (N := 15) hx hb hw in_X6 hown hK hP 0 rfl rfl 1 (by decide) (hw _ aw_872) (fun _ h9 => h9) rfl dX6_init_150 ?_
  refine lv_iload_n hx hb dX6_init_153 rfl (lv_at hl 0 rfl) ?_
  refine lv_iconst (v := 2) hx hb dX6_init_154 (by decide) ?_
  refine lv_iadd hx hb dX6_init_155 ?_
  refine W.eq (g2 := F0 m 156 ls [.int (15 : Int32), .ref r_0]) rfl ?_
  refine lv_bipush (v := 100) hx hb dX6_init_156 (by decide) ?_
  refine lv_iload_n hx hb dX6_init_158 rfl (lv_at hl 1 rfl) ?_
  refine lv_imul hx hb dX6_init_159 ?_
  refine W.eq (g2 := F0 m 160 ls [.int (100 : Int32), .int (15 : Int32), .ref r_0]) rfl ?_
  refine nv_iast hx hb hK hP hD hS 1 0 rfl rfl 15 (by decide) (by decide) dX6_init_160 (ws' := [[(a, .inr (4, [.int 0, .ref r_0, .ref r_1, .ref r_2, .int 0, .ref r_3, .int 0, .ref r_4, .ref r_5, .ref r_6, .int 0, .int 0, .int 0, .int 0, .int 0]))], rwC r_0 cI 129 (upd (upd (upd (upd (upd (upd (upd (upd (upd (upd (upd (upd (upd (fun _ => 0) 0 (4 : Int32)) 1 (4 : Int32)) 2 (4 : Int32)) 3 (9 : Int32)) 4 (40 : Int32)) 5 (8 : Int32)) 6 (0 : Int32)) 7 (30 : Int32)) 8 (0 : Int32)) 9 (50 : Int32)) 13 (1 : Int32)) 14 (31 : Int32)) 15 (100 : Int32)), rwC r_1 cI 129 (fun _ => 0), rwC r_2 cI 129 (fun _ => 0), rwC r_3 cI 774 (fun _ => 0), rwC r_4 cI 8 (fun _ => 0), rwC r_5 cI 8 (fun _ => 0), rwC r_6 cI 60 (fun _ => 0)].flatten) rfl (fun H locs hP hD hS => ?_)
  refine lv_aload_n hx hb dX6_init_161 rfl (lv_at hl 2 rfl) ?_
  refine va_get (D := G) (ci := 4) (C := RX6) (T := TX6) (N := 15) hx hb hw in_X6 hown hK hP 0 rfl rfl 1 (by decide) (hw _ aw_872) (fun _ h9 => h9) rfl dX6_init_162 ?_
  refine lv_iload_n hx hb dX6_init_165 rfl (lv_at hl 0 rfl) ?_
  refine lv_iconst (v := 3) hx hb dX6_init_166 (by decide) ?_
  refine lv_iadd hx hb dX6_init_167 ?_
  refine W.eq (g2 := F0 m 168 ls [.int (16 : Int32), .ref r_0]) rfl ?_
  refine lv_bipush (v := 50) hx hb dX6_init_168 (by decide) ?_
  refine nv_iast hx hb hK hP hD hS 1 0 rfl rfl 16 (by decide) (by decide) dX6_init_170 (ws' := [[(a, .inr (4, [.int 0, .ref r_0, .ref r_1, .ref r_2, .int 0, .ref r_3, .int 0, .ref r_4, .ref r_5, .ref r_6, .int 0, .int 0, .int 0, .int 0, .int 0]))], rwC r_0 cI 129 (upd (upd (upd (upd (upd (upd (upd (upd (upd (upd (upd (upd (upd (upd (fun _ => 0) 0 (4 : Int32)) 1 (4 : Int32)) 2 (4 : Int32)) 3 (9 : Int32)) 4 (40 : Int32)) 5 (8 : Int32)) 6 (0 : Int32)) 7 (30 : Int32)) 8 (0 : Int32)) 9 (50 : Int32)) 13 (1 : Int32)) 14 (31 : Int32)) 15 (100 : Int32)) 16 (50 : Int32)), rwC r_1 cI 129 (fun _ => 0), rwC r_2 cI 129 (fun _ => 0), rwC r_3 cI 774 (fun _ => 0), rwC r_4 cI 8 (fun _ => 0), rwC r_5 cI 8 (fun _ => 0), rwC r_6 cI 60 (fun _ => 0)].flatten) rfl (fun H locs hP hD hS => ?_)
  refine lv_iinc (v := 2) (k := 1) (lv' := [(1, .int (2 : Int32)), (2, .int (13 : Int32)), (0, .ref a)]) hx hb dX6_init_171 hl rfl rfl (by decide) rfl (fun ls hl => ?_)
  refine lv_goto (tgt := 112) hx hb dX6_init_174 (by decide) ?_
  refine lv_iload_n hx hb dX6_init_112 rfl (lv_at hl 0 rfl) ?_
  refine lv_bipush (v := 8) hx hb dX6_init_113 (by decide) ?_
  refine nv_ge hx hb 2 8 177 (by decide) (by decide) dX6_init_115 (by decide) (fun c => absurd c (by decide)) (fun _ => ?_)
  refine lv_bipush (v := 6) hx hb dX6_init_118 (by decide) ?_
  refine lv_bipush (v := 7) hx hb dX6_init_120 (by decide) ?_
  refine lv_iload_n hx hb dX6_init_122 rfl (lv_at hl 0 rfl) ?_
  refine lv_imul hx hb dX6_init_123 ?_
  refine W.eq (g2 := F0 m 124 ls [.int (14 : Int32), .int (6 : Int32)]) rfl ?_
  refine lv_iadd hx hb dX6_init_124 ?_
  refine W.eq (g2 := F0 m 125 ls [.int (20 : Int32)]) rfl ?_
  refine lv_istore_n (lv' := [(2, .int (20 : Int32)), (1, .int (2 : Int32)), (0, .ref a)]) hx hb dX6_init_125 rfl hl (by decide) rfl (fun ls hl => ?_)
  refine lv_aload_n hx hb dX6_init_126 rfl (lv_at hl 2 rfl) ?_
  refine va_get (D := G) (ci := 4) (C := RX6) (T := TX6) (N := 15) hx hb hw in_X6 hown hK hP 0 rfl rfl 1 (by decide) (hw _ aw_872) (fun _ h9 => h9) rfl dX6_init_127 ?_
  refine lv_iload_n hx hb dX6_init_130 rfl (lv_at hl 0 rfl) ?_
  refine lv_iconst (v := 0) hx hb dX6_init_131 (by decide) ?_
  refine lv_iadd hx hb dX6_init_132 ?_
  refine W.eq (g2 := F0 m 133 ls [.int (20 : Int32), .ref r_0]) rfl ?_
  refine lv_iload_n hx hb dX6_init_133 rfl (lv_at hl 1 rfl) ?_
  refine lv_iconst (v := 3) hx hb dX6_init_134 (by decide) ?_
  refine lv_irem hx hb dX6_init_135 (by decide) ?_
  refine W.eq (g2 := F0 m 136 ls [.int (2 : Int32), .int (20 : Int32), .ref r_0]) rfl ?_
  refine nv_iast hx hb hK hP hD hS 1 0 rfl rfl 20 (by decide) (by decide) dX6_init_136 (ws' := [[(a, .inr (4, [.int 0, .ref r_0, .ref r_1, .ref r_2, .int 0, .ref r_3, .int 0, .ref r_4, .ref r_5, .ref r_6, .int 0, .int 0, .int 0, .int 0, .int 0]))], rwC r_0 cI 129 (upd (upd (upd (upd (upd (upd (upd (upd (upd (upd (upd (upd (upd (upd (upd (fun _ => 0) 0 (4 : Int32)) 1 (4 : Int32)) 2 (4 : Int32)) 3 (9 : Int32)) 4 (40 : Int32)) 5 (8 : Int32)) 6 (0 : Int32)) 7 (30 : Int32)) 8 (0 : Int32)) 9 (50 : Int32)) 13 (1 : Int32)) 14 (31 : Int32)) 15 (100 : Int32)) 16 (50 : Int32)) 20 (2 : Int32)), rwC r_1 cI 129 (fun _ => 0), rwC r_2 cI 129 (fun _ => 0), rwC r_3 cI 774 (fun _ => 0), rwC r_4 cI 8 (fun _ => 0), rwC r_5 cI 8 (fun _ => 0), rwC r_6 cI 60 (fun _ => 0)].flatten) rfl (fun H locs hP hD hS => ?_)
  refine lv_aload_n hx hb dX6_init_137 rfl (lv_at hl 2 rfl) ?_
  refine va_get (D := G) (ci := 4) (C := RX6) (T := TX6) (N := 15) hx hb hw in_X6 hown hK hP 0 rfl rfl 1 (by decide) (hw _ aw_872) (fun _ h9 => h9) rfl dX6_init_138 ?_
  refine lv_iload_n hx hb dX6_init_141 rfl (lv_at hl 0 rfl) ?_
  refine lv_iconst (v := 1) hx hb dX6_init_142 (by decide) ?_
  refine lv_iadd hx hb dX6_init_143 ?_
  refine W.eq (g2 := F0 m 144 ls [.int (21 : Int32), .ref r_0]) rfl ?_
  refine lv_bipush (v := 30) hx hb dX6_init_144 (by decide) ?_
  refine lv_iload_n hx hb dX6_init_146 rfl (lv_at hl 1 rfl) ?_
  refine lv_iadd hx hb dX6_init_147 ?_
  refine W.eq (g2 := F0 m 148 ls [.int (32 : Int32), .int (21 : Int32), .ref r_0]) rfl ?_
  refine nv_iast hx hb hK hP hD hS 1 0 rfl rfl 21 (by decide) (by decide) dX6_init_148 (ws' := [[(a, .inr (4, [.int 0, .ref r_0, .ref r_1, .ref r_2, .int 0, .ref r_3, .int 0, .ref r_4, .ref r_5, .ref r_6, .int 0, .int 0, .int 0, .int 0, .int 0]))], rwC r_0 cI 129 (upd (upd (upd (upd (upd (upd (upd (upd (upd (upd (upd (upd (upd (upd (upd (upd (fun _ => 0) 0 (4 : Int32)) 1 (4 : Int32)) 2 (4 : Int32)) 3 (9 : Int32)) 4 (40 : Int32)) 5 (8 : Int32)) 6 (0 : Int32)) 7 (30 : Int32)) 8 (0 : Int32)) 9 (50 : Int32)) 13 (1 : Int32)) 14 (31 : Int32)) 15 (100 : Int32)) 16 (50 : Int32)) 20 (2 : Int32)) 21 (32 : Int32)), rwC r_1 cI 129 (fun _ => 0), rwC r_2 cI 129 (fun _ => 0), rwC r_3 cI 774 (fun _ => 0), rwC r_4 cI 8 (fun _ => 0), rwC r_5 cI 8 (fun _ => 0), rwC r_6 cI 60 (fun _ => 0)].flatten) rfl (fun H locs hP hD hS => ?_)
  refine lv_aload_n hx hb dX6_init_149 rfl (lv_at hl 2 rfl) ?_
  refine va_get (D := G) (ci := 4) (C := RX6) (T := TX6) (N := 15) hx hb hw in_X6 hown hK hP 0 rfl rfl 1 (by decide) (hw _ aw_872) (fun _ h9 => h9) rfl dX6_init_150 ?_
  refine lv_iload_n hx hb dX6_init_153 rfl (lv_at hl 0 rfl) ?_
  refine lv_iconst (v := 2) hx hb dX6_init_154 (by decide) ?_
  refine lv_iadd hx hb dX6_init_155 ?_
  refine W.eq (g2 := F0 m 156 ls [.int (22 : Int32), .ref r_0]) rfl ?_
  refine lv_bipush (v := 100) hx hb dX6_init_156 (by decide) ?_
  refine lv_iload_n hx hb dX6_init_158 rfl (lv_at hl 1 rfl) ?_
  refine lv_imul hx hb dX6_init_159 ?_
  refine W.eq (g2 := F0 m 160 ls [.int (200 : Int32), .int (22 : Int32), .ref r_0]) rfl ?_
  refine nv_iast hx hb hK hP hD hS 1 0 rfl rfl 22 (by decide) (by decide) dX6_init_160 (ws' := [[(a, .inr (4, [.int 0, .ref r_0, .ref r_1, .ref r_2, .int 0, .ref r_3, .int 0, .ref r_4, .ref r_5, .ref r_6, .int 0, .int 0, .int 0, .int 0, .int 0]))], rwC r_0 cI 129 (upd (upd (upd (upd (upd (upd (upd (upd (upd (upd (upd (upd (upd (upd (upd (upd (upd (fun _ => 0) 0 (4 : Int32)) 1 (4 : Int32)) 2 (4 : Int32)) 3 (9 : Int32)) 4 (40 : Int32)) 5 (8 : Int32)) 6 (0 : Int32)) 7 (30 : Int32)) 8 (0 : Int32)) 9 (50 : Int32)) 13 (1 : Int32)) 14 (31 : Int32)) 15 (100 : Int32)) 16 (50 : Int32)) 20 (2 : Int32)) 21 (32 : Int32)) 22 (200 : Int32)), rwC r_1 cI 129 (fun _ => 0), rwC r_2 cI 129 (fun _ => 0), rwC r_3 cI 774 (fun _ => 0), rwC r_4 cI 8 (fun _ => 0), rwC r_5 cI 8 (fun _ => 0), rwC r_6 cI 60 (fun _ => 0)].flatten) rfl (fun H locs hP hD hS => ?_)
  refine lv_aload_n hx hb dX6_init_161 rfl (lv_at hl 2 rfl) ?_
  refine va_get (D := G) (ci := 4) (C := RX6) (T := TX6) (N := 15) hx hb hw in_X6 hown hK hP 0 rfl rfl 1 (by decide) (hw _ aw_872) (fun _ h9 => h9) rfl dX6_init_162 ?_
  refine lv_iload_n hx hb dX6_init_165 rfl (lv_at hl 0 rfl) ?_
  refine lv_iconst (v := 3) hx hb dX6_init_166 (by decide) ?_
  refine lv_iadd hx hb dX6_init_167 ?_
  refine W.eq (g2 := F0 m 168 ls [.int (23 : Int32), .ref r_0]) rfl ?_
  refine lv_bipush (v := 50) hx hb dX6_init_168 (by decide) ?_
  refine nv_iast hx hb hK hP hD hS 1 0 rfl rfl 23 (by decide) (by decide) dX6_init_170 (ws' := [[(a, .inr (4, [.int 0, .ref r_0, .ref r_1, .ref r_2, .int 0, .ref r_3, .int 0, .ref r_4, .ref r_5, .ref r_6, .int 0, .int 0, .int 0, .int 0, .int 0]))], rwC r_0 cI 129 (upd (upd (upd (upd (upd (upd (upd (upd (upd (upd (upd (upd (upd (upd (upd (upd (upd (upd (fun _ => 0) 0 (4 : Int32)) 1 (4 : Int32)) 2 (4 : Int32)) 3 (9 : Int32)) 4 (40 : Int32)) 5 (8 : Int32)) 6 (0 : Int32)) 7 (30 : Int32)) 8 (0 : Int32)) 9 (50 : Int32)) 13 (1 : Int32)) 14 (31 : Int32)) 15 (100 : Int32)) 16 (50 : Int32)) 20 (2 : Int32)) 21 (32 : Int32)) 22 (200 : Int32)) 23 (50 : Int32)), rwC r_1 cI 129 (fun _ => 0), rwC r_2 cI 129 (fun _ => 0), rwC r_3 cI 774 (fun _ => 0), rwC r_4 cI 8 (fun _ => 0), rwC r_5 cI 8 (fun _ => 0), rwC r_6 cI 60 (fun _ => 0)].flatten) rfl (fun H locs hP hD hS => ?_)
  refine lv_iinc (v := 3) (k := 1) (lv' := [(1, .int (3 : Int32)), (2, .int (20 : Int32)), (0, .ref a)]) hx hb dX6_init_171 hl rfl rfl (by decide) rfl (fun ls hl => ?_)
  refine lv_goto (tgt := 112) hx hb dX6_init_174 (by decide) ?_
  refine lv_iload_n hx hb dX6_init_112 rfl (lv_at hl 0 rfl) ?_
  refine lv_bipush (v := 8) hx hb dX6_init_113 (by decide) ?_
  refine nv_ge hx hb 3 8 177 (by decide) (by decide) dX6_init_115 (by decide) (fun c => absurd c (by decide)) (fun _ => ?_)
  refine lv_bipush (v := 6) hx hb dX6_init_118 (by decide) ?_
  refine lv_bipush (v := 7) hx hb dX6_init_120 (by decide) ?_
  refine lv_iload_n hx hb dX6_init_122 rfl (lv_at hl 0 rfl) ?_
  refine lv_imul hx hb dX6_init_123 ?_
  refine W.eq (g2 := F0 m 124 ls [.int (21 : Int32), .int (6 : Int32)]) rfl ?_
  refine lv_iadd hx hb dX6_init_124 ?_
  refine W.eq (g2 := F0 m 125 ls [.int (27 : Int32)]) rfl ?_
  refine lv_istore_n (lv' := [(2, .int (27 : Int32)), (1, .int (3 : Int32)), (0, .ref a)]) hx hb dX6_init_125 rfl hl (by decide) rfl (fun ls hl => ?_)
  refine lv_aload_n hx hb dX6_init_126 rfl (lv_at hl 2 rfl) ?_
  refine va_get (D := G) (ci := 4) (C := RX6) (T := TX6) (N := 15) hx hb hw in_X6 hown hK hP 0 rfl rfl 1 (by decide) (hw _ aw_872) (fun _ h9 => h9) rfl dX6_init_127 ?_
  refine lv_iload_n hx hb dX6_init_130 rfl (lv_at hl 0 rfl) ?_
  refine lv_iconst (v := 0) hx hb dX6_init_131 (by decide) ?_
  refine lv_iadd hx hb dX6_init_132 ?_
  refine W.eq (g2 := F0 m 133 ls [.int (27 : Int32), .ref r_0]) rfl ?_
  refine lv_iload_n hx hb dX6_init_133 rfl (lv_at hl 1 rfl) ?_
  refine lv_iconst (v := 3) hx hb dX6_init_134 (by decide) ?_
  refine lv_irem hx hb dX6_init_135 (by decide) ?_
  refine W.eq (g2 := F0 m 136 ls [.int (0 : Int32), .int (27 : Int32), .ref r_0]) rfl ?_
  refine nv_iast hx hb hK hP hD hS 1 0 rfl rfl 27 (by decide) (by decide) dX6_init_136 (ws' := [[(a, .inr (4, [.int 0, .ref r_0, .ref r_1, .ref r_2, .int 0, .ref r_3, .int 0, .ref r_4, .ref r_5, .ref r_6, .int 0, .int 0, .int 0, .int 0, .int 0]))], rwC r_0 cI 129 (upd (upd (upd (upd (upd (upd (upd (upd (upd (upd (upd (upd (upd (upd (upd (upd (upd (upd (upd (fun _ => 0) 0 (4 : Int32)) 1 (4 : Int32)) 2 (4 : Int32)) 3 (9 : Int32)) 4 (40 : Int32)) 5 (8 : Int32)) 6 (0 : Int32)) 7 (30 : Int32)) 8 (0 : Int32)) 9 (50 : Int32)) 13 (1 : Int32)) 14 (31 : Int32)) 15 (100 : Int32)) 16 (50 : Int32)) 20 (2 : Int32)) 21 (32 : Int32)) 22 (200 : Int32)) 23 (50 : Int32)) 27 (0 : Int32)), rwC r_1 cI 129 (fun _ => 0), rwC r_2 cI 129 (fun _ => 0), rwC r_3 cI 774 (fun _ => 0), rwC r_4 cI 8 (fun _ => 0), rwC r_5 cI 8 (fun _ => 0), rwC r_6 cI 60 (fun _ => 0)].flatten) rfl (fun H locs hP hD hS => ?_)
  refine lv_aload_n hx hb dX6_init_137 rfl (lv_at hl 2 rfl) ?_
  refine va_get (D := G) (ci := 4) (C := RX6) (T := TX6) (N := 15) hx hb hw in_X6 hown hK hP 0 rfl rfl 1 (by decide) (hw _ aw_872) (fun _ h9 => h9) rfl dX6_init_138 ?_
  refine lv_iload_n hx hb dX6_init_141 rfl (lv_at hl 0 rfl) ?_
  refine lv_iconst (v := 1) hx hb dX6_init_142 (by decide) ?_
  refine lv_iadd hx hb dX6_init_143 ?_
  refine W.eq (g2 := F0 m 144 ls [.int (28 : Int32), .ref r_0]) rfl ?_
  refine lv_bipush (v := 30) hx hb dX6_init_144 (by decide) ?_
  refine lv_iload_n hx hb dX6_init_146 rfl (lv_at hl 1 rfl) ?_
  refine lv_iadd hx hb dX6_init_147 ?_
  refine W.eq (g2 := F0 m 148 ls [.int (33 : Int32), .int (28 : Int32), .ref r_0]) rfl ?_
  refine nv_iast hx hb hK hP hD hS 1 0 rfl rfl 28 (by decide) (by decide) dX6_init_148 (ws' := [[(a, .inr (4, [.int 0, .ref r_0, .ref r_1, .ref r_2, .int 0, .ref r_3, .int 0, .ref r_4, .ref r_5, .ref r_6, .int 0, .int 0, .int 0, .int 0, .int 0]))], rwC r_0 cI 129 (upd (upd (upd (upd (upd (upd (upd (upd (upd (upd (upd (upd (upd (upd (upd (upd (upd (upd (upd (upd (fun _ => 0) 0 (4 : Int32)) 1 (4 : Int32)) 2 (4 : Int32)) 3 (9 : Int32)) 4 (40 : Int32)) 5 (8 : Int32)) 6 (0 : Int32)) 7 (30 : Int32)) 8 (0 : Int32)) 9 (50 : Int32)) 13 (1 : Int32)) 14 (31 : Int32)) 15 (100 : Int32)) 16 (50 : Int32)) 20 (2 : Int32)) 21 (32 : Int32)) 22 (200 : Int32)) 23 (50 : Int32)) 27 (0 : Int32)) 28 (33 : Int32)), rwC r_1 cI 129 (fun _ => 0), rwC r_2 cI 129 (fun _ => 0), rwC r_3 cI 774 (fun _ => 0), rwC r_4 cI 8 (fun _ => 0), rwC r_5 cI 8 (fun _ => 0), rwC r_6 cI 60 (fun _ => 0)].flatten) rfl (fun H locs hP hD hS => ?_)
  refine lv_aload_n hx hb dX6_init_149 rfl (lv_at hl 2 rfl) ?_
  refine va_get (D := G) (ci := 4) (C := RX6) (T := TX6) (N := 15) hx hb hw in_X6 hown hK hP 0 rfl rfl 1 (by decide) (hw _ aw_872) (fun _ h9 => h9) rfl dX6_init_150 ?_
  refine lv_iload_n hx hb dX6_init_153 rfl (lv_at hl 0 rfl) ?_
  refine lv_iconst (v := 2) hx hb dX6_init_154 (by decide) ?_
  refine lv_iadd hx hb dX6_init_155 ?_
  refine W.eq (g2 := F0 m 156 ls [.int (29 : Int32), .ref r_0]) rfl ?_
  refine lv_bipush (v := 100) hx hb dX6_init_156 (by decide) ?_
  refine lv_iload_n hx hb dX6_init_158 rfl (lv_at hl 1 rfl) ?_
  refine lv_imul hx hb dX6_init_159 ?_
  refine W.eq (g2 := F0 m 160 ls [.int (300 : Int32), .int (29 : Int32), .ref r_0]) rfl ?_
  refine nv_iast hx hb hK hP hD hS 1 0 rfl rfl 29 (by decide) (by decide) dX6_init_160 (ws' := [[(a, .inr (4, [.int 0, .ref r_0, .ref r_1, .ref r_2, .int 0, .ref r_3, .int 0, .ref r_4, .ref r_5, .ref r_6, .int 0, .int 0, .int 0, .int 0, .int 0]))], rwC r_0 cI 129 (upd (upd (upd (upd (upd (upd (upd (upd (upd (upd (upd (upd (upd (upd (upd (upd (upd (upd (upd (upd (upd (fun _ => 0) 0 (4 : Int32)) 1 (4 : Int32)) 2 (4 : Int32)) 3 (9 : Int32)) 4 (40 : Int32)) 5 (8 : Int32)) 6 (0 : Int32)) 7 (30 : Int32)) 8 (0 : Int32)) 9 (50 : Int32)) 13 (1 : Int32)) 14 (31 : Int32)) 15 (100 : Int32)) 16 (50 : Int32)) 20 (2 : Int32)) 21 (32 : Int32)) 22 (200 : Int32)) 23 (50 : Int32)) 27 (0 : Int32)) 28 (33 : Int32)) 29 (300 : Int32)), rwC r_1 cI 129 (fun _ => 0), rwC r_2 cI 129 (fun _ => 0), rwC r_3 cI 774 (fun _ => 0), rwC r_4 cI 8 (fun _ => 0), rwC r_5 cI 8 (fun _ => 0), rwC r_6 cI 60 (fun _ => 0)].flatten) rfl (fun H locs hP hD hS => ?_)
  refine lv_aload_n hx hb dX6_init_161 rfl (lv_at hl 2 rfl) ?_
  refine va_get (D := G) (ci := 4) (C := RX6) (T := TX6) (N := 15) hx hb hw in_X6 hown hK hP 0 rfl rfl 1 (by decide) (hw _ aw_872) (fun _ h9 => h9) rfl dX6_init_162 ?_
  refine lv_iload_n hx hb dX6_init_165 rfl (lv_at hl 0 rfl) ?_
  refine lv_iconst (v := 3) hx hb dX6_init_166 (by decide) ?_
  refine lv_iadd hx hb dX6_init_167 ?_
  refine W.eq (g2 := F0 m 168 ls [.int (30 : Int32), .ref r_0]) rfl ?_
  refine lv_bipush (v := 50) hx hb dX6_init_168 (by decide) ?_
  refine nv_iast hx hb hK hP hD hS 1 0 rfl rfl 30 (by decide) (by decide) dX6_init_170 (ws' := [[(a, .inr (4, [.int 0, .ref r_0, .ref r_1, .ref r_2, .int 0, .ref r_3, .int 0, .ref r_4, .ref r_5, .ref r_6, .int 0, .int 0, .int 0, .int 0, .int 0]))], rwC r_0 cI 129 (upd (upd (upd (upd (upd (upd (upd (upd (upd (upd (upd (upd (upd (upd (upd (upd (upd (upd (upd (upd (upd (upd (fun _ => 0) 0 (4 : Int32)) 1 (4 : Int32)) 2 (4 : Int32)) 3 (9 : Int32)) 4 (40 : Int32)) 5 (8 : Int32)) 6 (0 : Int32)) 7 (30 : Int32)) 8 (0 : Int32)) 9 (50 : Int32)) 13 (1 : Int32)) 14 (31 : Int32)) 15 (100 : Int32)) 16 (50 : Int32)) 20 (2 : Int32)) 21 (32 : Int32)) 22 (200 : Int32)) 23 (50 : Int32)) 27 (0 : Int32)) 28 (33 : Int32)) 29 (300 : Int32)) 30 (50 : Int32)), rwC r_1 cI 129 (fun _ => 0), rwC r_2 cI 129 (fun _ => 0), rwC r_3 cI 774 (fun _ => 0), rwC r_4 cI 8 (fun _ => 0), rwC r_5 cI 8 (fun _ => 0), rwC r_6 cI 60 (fun _ => 0)].flatten) rfl (fun H locs hP hD hS => ?_)
  refine lv_iinc (v := 4) (k := 1) (lv' := [(1, .int (4 : Int32)), (2, .int (27 : Int32)), (0, .ref a)]) hx hb dX6_init_171 hl rfl rfl (by decide) rfl (fun ls hl => ?_)
  refine lv_goto (tgt := 112) hx hb dX6_init_174 (by decide) ?_
  refine lv_iload_n hx hb dX6_init_112 rfl (lv_at hl 0 rfl) ?_
  refine lv_bipush (v := 8) hx hb dX6_init_113 (by decide) ?_
  refine nv_ge hx hb 4 8 177 (by decide) (by decide) dX6_init_115 (by decide) (fun c => absurd c (by decide)) (fun _ => ?_)
  refine lv_bipush (v := 6) hx hb dX6_init_118 (by decide) ?_
  refine lv_bipush (v := 7) hx hb dX6_init_120 (by decide) ?_
  refine lv_iload_n hx hb dX6_init_122 rfl (lv_at hl 0 rfl) ?_
  refine lv_imul hx hb dX6_init_123 ?_
  refine W.eq (g2 := F0 m 124 ls [.int (28 : Int32), .int (6 : Int32)]) rfl ?_
  refine lv_iadd hx hb dX6_init_124 ?_
  refine W.eq (g2 := F0 m 125 ls [.int (34 : Int32)]) rfl ?_
  refine lv_istore_n (lv' := [(2, .int (34 : Int32)), (1, .int (4 : Int32)), (0, .ref a)]) hx hb dX6_init_125 rfl hl (by decide) rfl (fun ls hl => ?_)
  refine lv_aload_n hx hb dX6_init_126 rfl (lv_at hl 2 rfl) ?_
  refine va_get (D := G) (ci := 4) (C := RX6) (T := TX6) (N := 15) hx hb hw in_X6 hown hK hP 0 rfl rfl 1 (by decide) (hw _ aw_872) (fun _ h9 => h9) rfl dX6_init_127 ?_
  refine lv_iload_n hx hb dX6_init_130 rfl (lv_at hl 0 rfl) ?_
  refine lv_iconst (v := 0) hx hb dX6_init_131 (by decide) ?_
  refine lv_iadd hx hb dX6_init_132 ?_
  refine W.eq (g2 := F0 m 133 ls [.int (34 : Int32), .ref r_0]) rfl ?_
  refine lv_iload_n hx hb dX6_init_133 rfl (lv_at hl 1 rfl) ?_
  refine lv_iconst (v := 3) hx hb dX6_init_134 (by decide) ?_
  refine lv_irem hx hb dX6_init_135 (by decide) ?_
  refine W.eq (g2 := F0 m 136 ls [.int (1 : Int32), .int (34 : Int32), .ref r_0]) rfl ?_
  refine nv_iast hx hb hK hP hD hS 1 0 rfl rfl 34 (by decide) (by decide) dX6_init_136 (ws' := [[(a, .inr (4, [.int 0, .ref r_0, .ref r_1, .ref r_2, .int 0, .ref r_3, .int 0, .ref r_4, .ref r_5, .ref r_6, .int 0, .int 0, .int 0, .int 0, .int 0]))], rwC r_0 cI 129 (upd (upd (upd (upd (upd (upd (upd (upd (upd (upd (upd (upd (upd (upd (upd (upd (upd (upd (upd (upd (upd (upd (upd (fun _ => 0) 0 (4 : Int32)) 1 (4 : Int32)) 2 (4 : Int32)) 3 (9 : Int32)) 4 (40 : Int32)) 5 (8 : Int32)) 6 (0 : Int32)) 7 (30 : Int32)) 8 (0 : Int32)) 9 (50 : Int32)) 13 (1 : Int32)) 14 (31 : Int32)) 15 (100 : Int32)) 16 (50 : Int32)) 20 (2 : Int32)) 21 (32 : Int32)) 22 (200 : Int32)) 23 (50 : Int32)) 27 (0 : Int32)) 28 (33 : Int32)) 29 (300 : Int32)) 30 (50 : Int32)) 34 (1 : Int32)), rwC r_1 cI 129 (fun _ => 0), rwC r_2 cI 129 (fun _ => 0), rwC r_3 cI 774 (fun _ => 0), rwC r_4 cI 8 (fun _ => 0), rwC r_5 cI 8 (fun _ => 0), rwC r_6 cI 60 (fun _ => 0)].flatten) rfl (fun H locs hP hD hS => ?_)
  refine lv_aload_n hx hb dX6_init_137 rfl (lv_at hl 2 rfl) ?_
  refine va_get (D := G) (ci := 4) (C := RX6) (T := TX6) (N := 15) hx hb hw in_X6 hown hK hP 0 rfl rfl 1 (by decide) (hw _ aw_872) (fun _ h9 => h9) rfl dX6_init_138 ?_
  refine lv_iload_n hx hb dX6_init_141 rfl (lv_at hl 0 rfl) ?_
  refine lv_iconst (v := 1) hx hb dX6_init_142 (by decide) ?_
  refine lv_iadd hx hb dX6_init_143 ?_
  refine W.eq (g2 := F0 m 144 ls [.int (35 : Int32), .ref r_0]) rfl ?_
  refine lv_bipush (v := 30) hx hb dX6_init_144 (by decide) ?_
  refine lv_iload_n hx hb dX6_init_146 rfl (lv_at hl 1 rfl) ?_
  refine lv_iadd hx hb dX6_init_147 ?_
  refine W.eq (g2 := F0 m 148 ls [.int (34 : Int32), .int (35 : Int32), .ref r_0]) rfl ?_
  refine nv_iast hx hb hK hP hD hS 1 0 rfl rfl 35 (by decide) (by decide) dX6_init_148 (ws' := [[(a, .inr (4, [.int 0, .ref r_0, .ref r_1, .ref r_2, .int 0, .ref r_3, .int 0, .ref r_4, .ref r_5, .ref r_6, .int 0, .int 0, .int 0, .int 0, .int 0]))], rwC r_0 cI 129 (upd (upd (upd (upd (upd (upd (upd (upd (upd (upd (upd (upd (upd (upd (upd (upd (upd (upd (upd (upd (upd (upd (upd (upd (fun _ => 0) 0 (4 : Int32)) 1 (4 : Int32)) 2 (4 : Int32)) 3 (9 : Int32)) 4 (40 : Int32)) 5 (8 : Int32)) 6 (0 : Int32)) 7 (30 : Int32)) 8 (0 : Int32)) 9 (50 : Int32)) 13 (1 : Int32)) 14 (31 : Int32)) 15 (100 : Int32)) 16 (50 : Int32)) 20 (2 : Int32)) 21 (32 : Int32)) 22 (200 : Int32)) 23 (50 : Int32)) 27 (0 : Int32)) 28 (33 : Int32)) 29 (300 : Int32)) 30 (50 : Int32)) 34 (1 : Int32)) 35 (34 : Int32)), rwC r_1 cI 129 (fun _ => 0), rwC r_2 cI 129 (fun _ => 0), rwC r_3 cI 774 (fun _ => 0), rwC r_4 cI 8 (fun _ => 0), rwC r_5 cI 8 (fun _ => 0), rwC r_6 cI 60 (fun _ => 0)].flatten) rfl (fun H locs hP hD hS => ?_)
  refine lv_aload_n hx hb dX6_init_149 rfl (lv_at hl 2 rfl) ?_
  refine va_get (D := G) (ci := 4) (C := RX6) (T := TX6) (N := 15) hx hb hw in_X6 hown hK hP 0 rfl rfl 1 (by decide) (hw _ aw_872) (fun _ h9 => h9) rfl dX6_init_150 ?_
  refine lv_iload_n hx hb dX6_init_153 rfl (lv_at hl 0 rfl) ?_
  refine lv_iconst (v := 2) hx hb dX6_init_154 (by decide) ?_
  refine lv_iadd hx hb dX6_init_155 ?_
  refine W.eq (g2 := F0 m 156 ls [.int (36 : Int32), .ref r_0]) rfl ?_
  refine lv_bipush (v := 100) hx hb dX6_init_156 (by decide) ?_
  refine lv_iload_n hx hb dX6_init_158 rfl (lv_at hl 1 rfl) ?_
  refine lv_imul hx hb dX6_init_159 ?_
  refine W.eq (g2 := F0 m 160 ls [.int (400 : Int32), .int (36 : Int32), .ref r_0]) rfl ?_
  refine nv_iast hx hb hK hP hD hS 1 0 rfl rfl 36 (by decide) (by decide) dX6_init_160 (ws' := [[(a, .inr (4, [.int 0, .ref r_0, .ref r_1, .ref r_2, .int 0, .ref r_3, .int 0, .ref r_4, .ref r_5, .ref r_6, .int 0, .int 0, .int 0, .int 0, .int 0]))], rwC r_0 cI 129 (upd (upd (upd (upd (upd (upd (upd (upd (upd (upd (upd (upd (upd (upd (upd (upd (upd (upd (upd (upd (upd (upd (upd (upd (upd (fun _ => 0) 0 (4 : Int32)) 1 (4 : Int32)) 2 (4 : Int32)) 3 (9 : Int32)) 4 (40 : Int32)) 5 (8 : Int32)) 6 (0 : Int32)) 7 (30 : Int32)) 8 (0 : Int32)) 9 (50 : Int32)) 13 (1 : Int32)) 14 (31 : Int32)) 15 (100 : Int32)) 16 (50 : Int32)) 20 (2 : Int32)) 21 (32 : Int32)) 22 (200 : Int32)) 23 (50 : Int32)) 27 (0 : Int32)) 28 (33 : Int32)) 29 (300 : Int32)) 30 (50 : Int32)) 34 (1 : Int32)) 35 (34 : Int32)) 36 (400 : Int32)), rwC r_1 cI 129 (fun _ => 0), rwC r_2 cI 129 (fun _ => 0), rwC r_3 cI 774 (fun _ => 0), rwC r_4 cI 8 (fun _ => 0), rwC r_5 cI 8 (fun _ => 0), rwC r_6 cI 60 (fun _ => 0)].flatten) rfl (fun H locs hP hD hS => ?_)
  refine lv_aload_n hx hb dX6_init_161 rfl (lv_at hl 2 rfl) ?_
  refine va_get (D := G) (ci := 4) (C := RX6) (T := TX6) (N := 15) hx hb hw in_X6 hown hK hP 0 rfl rfl 1 (by decide) (hw _ aw_872) (fun _ h9 => h9) rfl dX6_init_162 ?_
  refine lv_iload_n hx hb dX6_init_165 rfl (lv_at hl 0 rfl) ?_
  refine lv_iconst (v := 3) hx hb dX6_init_166 (by decide) ?_
  refine lv_iadd hx hb dX6_init_167 ?_
  refine W.eq (g2 := F0 m 168 ls [.int (37 : Int32), .ref r_0]) rfl ?_
  refine lv_bipush (v := 50) hx hb dX6_init_168 (by decide) ?_
  refine nv_iast hx hb hK hP hD hS 1 0 rfl rfl 37 (by decide) (by decide) dX6_init_170 (ws' := [[(a, .inr (4, [.int 0, .ref r_0, .ref r_1, .ref r_2, .int 0, .ref r_3, .int 0, .ref r_4, .ref r_5, .ref r_6, .int 0, .int 0, .int 0, .int 0, .int 0]))], rwC r_0 cI 129 (upd (upd (upd (upd (upd (upd (upd (upd (upd (upd (upd (upd (upd (upd (upd (upd (upd (upd (upd (upd (upd (upd (upd (upd (upd (upd (fun _ => 0) 0 (4 : Int32)) 1 (4 : Int32)) 2 (4 : Int32)) 3 (9 : Int32)) 4 (40 : Int32)) 5 (8 : Int32)) 6 (0 : Int32)) 7 (30 : Int32)) 8 (0 : Int32)) 9 (50 : Int32)) 13 (1 : Int32)) 14 (31 : Int32)) 15 (100 : Int32)) 16 (50 : Int32)) 20 (2 : Int32)) 21 (32 : Int32)) 22 (200 : Int32)) 23 (50 : Int32)) 27 (0 : Int32)) 28 (33 : Int32)) 29 (300 : Int32)) 30 (50 : Int32)) 34 (1 : Int32)) 35 (34 : Int32)) 36 (400 : Int32)) 37 (50 : Int32)), rwC r_1 cI 129 (fun _ => 0), rwC r_2 cI 129 (fun _ => 0), rwC r_3 cI 774 (fun _ => 0), rwC r_4 cI 8 (fun _ => 0), rwC r_5 cI 8 (fun _ => 0), rwC r_6 cI 60 (fun _ => 0)].flatten) rfl (fun H locs hP hD hS => ?_)
  refine lv_iinc (v := 5) (k := 1) (lv' := [(1, .int (5 : Int32)), (2, .int (34 : Int32)), (0, .ref a)]) hx hb dX6_init_171 hl rfl rfl (by decide) rfl (fun ls hl => ?_)
  refine lv_goto (tgt := 112) hx hb dX6_init_174 (by decide) ?_
  refine lv_iload_n hx hb dX6_init_112 rfl (lv_at hl 0 rfl) ?_
  refine lv_bipush (v := 8) hx hb dX6_init_113 (by decide) ?_
  refine nv_ge hx hb 5 8 177 (by decide) (by decide) dX6_init_115 (by decide) (fun c => absurd c (by decide)) (fun _ => ?_)
  refine lv_bipush (v := 6) hx hb dX6_init_118 (by decide) ?_
  refine lv_bipush (v := 7) hx hb dX6_init_120 (by decide) ?_
  refine lv_iload_n hx hb dX6_init_122 rfl (lv_at hl 0 rfl) ?_
  refine lv_imul hx hb dX6_init_123 ?_
  refine W.eq (g2 := F0 m 124 ls [.int (35 : Int32), .int (6 : Int32)]) rfl ?_
  refine lv_iadd hx hb dX6_init_124 ?_
  refine W.eq (g2 := F0 m 125 ls [.int (41 : Int32)]) rfl ?_
  refine lv_istore_n (lv' := [(2, .int (41 : Int32)), (1, .int (5 : Int32)), (0, .ref a)]) hx hb dX6_init_125 rfl hl (by decide) rfl (fun ls hl => ?_)
  refine lv_aload_n hx hb dX6_init_126 rfl (lv_at hl 2 rfl) ?_
  refine va_get (D := G) (ci := 4) (C := RX6) (T := TX6) (N := 15) hx hb hw in_X6 hown hK hP 0 rfl rfl 1 (by decide) (hw _ aw_872) (fun _ h9 => h9) rfl dX6_init_127 ?_
  refine lv_iload_n hx hb dX6_init_130 rfl (lv_at hl 0 rfl) ?_
  refine lv_iconst (v := 0) hx hb dX6_init_131 (by decide) ?_
  refine lv_iadd hx hb dX6_init_132 ?_
  refine W.eq (g2 := F0 m 133 ls [.int (41 : Int32), .ref r_0]) rfl ?_
  refine lv_iload_n hx hb dX6_init_133 rfl (lv_at hl 1 rfl) ?_
  refine lv_iconst (v := 3) hx hb dX6_init_134 (by decide) ?_
  refine lv_irem hx hb dX6_init_135 (by decide) ?_
  refine W.eq (g2 := F0 m 136 ls [.int (2 : Int32), .int (41 : Int32), .ref r_0]) rfl ?_
  refine nv_iast hx hb hK hP hD hS 1 0 rfl rfl 41 (by decide) (by decide) dX6_init_136 (ws' := [[(a, .inr (4, [.int 0, .ref r_0, .ref r_1, .ref r_2, .int 0, .ref r_3, .int 0, .ref r_4, .ref r_5, .ref r_6, .int 0, .int 0, .int 0, .int 0, .int 0]))], rwC r_0 cI 129 (upd (upd (upd (upd (upd (upd (upd (upd (upd (upd (upd (upd (upd (upd (upd (upd (upd (upd (upd (upd (upd (upd (upd (upd (upd (upd (upd (fun _ => 0) 0 (4 : Int32)) 1 (4 : Int32)) 2 (4 : Int32)) 3 (9 : Int32)) 4 (40 : Int32)) 5 (8 : Int32)) 6 (0 : Int32)) 7 (30 : Int32)) 8 (0 : Int32)) 9 (50 : Int32)) 13 (1 : Int32)) 14 (31 : Int32)) 15 (100 : Int32)) 16 (50 : Int32)) 20 (2 : Int32)) 21 (32 : Int32)) 22 (200 : Int32)) 23 (50 : Int32)) 27 (0 : Int32)) 28 (33 : Int32)) 29 (300 : Int32)) 30 (50 : Int32)) 34 (1 : Int32)) 35 (34 : Int32)) 36 (400 : Int32)) 37 (50 : Int32)) 41 (2 : Int32)), rwC r_1 cI 129 (fun _ => 0), rwC r_2 cI 129 (fun _ => 0), rwC r_3 cI 774 (fun _ => 0), rwC r_4 cI 8 (fun _ => 0), rwC r_5 cI 8 (fun _ => 0), rwC r_6 cI 60 (fun _ => 0)].flatten) rfl (fun H locs hP hD hS => ?_)
  refine lv_aload_n hx hb dX6_init_137 rfl (lv_at hl 2 rfl) ?_
  refine va_get (D := G) (ci := 4) (C := RX6) (T := TX6) (N := 15) hx hb hw in_X6 hown hK hP 0 rfl rfl 1 (by decide) (hw _ aw_872) (fun _ h9 => h9) rfl dX6_init_138 ?_
  refine lv_iload_n hx hb dX6_init_141 rfl (lv_at hl 0 rfl) ?_
  refine lv_iconst (v := 1) hx hb dX6_init_142 (by decide) ?_
  refine lv_iadd hx hb dX6_init_143 ?_
  refine W.eq (g2 := F0 m 144 ls [.int (42 : Int32), .ref r_0]) rfl ?_
  refine lv_bipush (v := 30) hx hb dX6_init_144 (by decide) ?_
  refine lv_iload_n hx hb dX6_init_146 rfl (lv_at hl 1 rfl) ?_
  refine lv_iadd hx hb dX6_init_147 ?_
  refine W.eq (g2 := F0 m 148 ls [.int (35 : Int32), .int (42 : Int32), .ref r_0]) rfl ?_
  refine nv_iast hx hb hK hP hD hS 1 0 rfl rfl 42 (by decide) (by decide) dX6_init_148 (ws' := [[(a, .inr (4, [.int 0, .ref r_0, .ref r_1, .ref r_2, .int 0, .ref r_3, .int 0, .ref r_4, .ref r_5, .ref r_6, .int 0, .int 0, .int 0, .int 0, .int 0]))], rwC r_0 cI 129 (upd (upd (upd (upd (upd (upd (upd (upd (upd (upd (upd (upd (upd (upd (upd (upd (upd (upd (upd (upd (upd (upd (upd (upd (upd (upd (upd (upd (fun _ => 0) 0 (4 : Int32)) 1 (4 : Int32)) 2 (4 : Int32)) 3 (9 : Int32)) 4 (40 : Int32)) 5 (8 : Int32)) 6 (0 : Int32)) 7 (30 : Int32)) 8 (0 : Int32)) 9 (50 : Int32)) 13 (1 : Int32)) 14 (31 : Int32)) 15 (100 : Int32)) 16 (50 : Int32)) 20 (2 : Int32)) 21 (32 : Int32)) 22 (200 : Int32)) 23 (50 : Int32)) 27 (0 : Int32)) 28 (33 : Int32)) 29 (300 : Int32)) 30 (50 : Int32)) 34 (1 : Int32)) 35 (34 : Int32)) 36 (400 : Int32)) 37 (50 : Int32)) 41 (2 : Int32)) 42 (35 : Int32)), rwC r_1 cI 129 (fun _ => 0), rwC r_2 cI 129 (fun _ => 0), rwC r_3 cI 774 (fun _ => 0), rwC r_4 cI 8 (fun _ => 0), rwC r_5 cI 8 (fun _ => 0), rwC r_6 cI 60 (fun _ => 0)].flatten) rfl (fun H locs hP hD hS => ?_)
  refine lv_aload_n hx hb dX6_init_149 rfl (lv_at hl 2 rfl) ?_
  refine va_get (D := G) (ci := 4) (C := RX6) (T := TX6) (N := 15) hx hb hw in_X6 hown hK hP 0 rfl rfl 1 (by decide) (hw _ aw_872) (fun _ h9 => h9) rfl dX6_init_150 ?_
  refine lv_iload_n hx hb dX6_init_153 rfl (lv_at hl 0 rfl) ?_
  refine lv_iconst (v := 2) hx hb dX6_init_154 (by decide) ?_
  refine lv_iadd hx hb dX6_init_155 ?_
  refine W.eq (g2 := F0 m 156 ls [.int (43 : Int32), .ref r_0]) rfl ?_
  refine lv_bipush (v := 100) hx hb dX6_init_156 (by decide) ?_
  refine lv_iload_n hx hb dX6_init_158 rfl (lv_at hl 1 rfl) ?_
  refine lv_imul hx hb dX6_init_159 ?_
  refine W.eq (g2 := F0 m 160 ls [.int (500 : Int32), .int (43 : Int32), .ref r_0]) rfl ?_
  refine nv_iast hx hb hK hP hD hS 1 0 rfl rfl 43 (by decide) (by decide) dX6_init_160 (ws' := [[(a, .inr (4, [.int 0, .ref r_0, .ref r_1, .ref r_2, .int 0, .ref r_3, .int 0, .ref r_4, .ref r_5, .ref r_6, .int 0, .int 0, .int 0, .int 0, .int 0]))], rwC r_0 cI 129 (upd (upd (upd (upd (upd (upd (upd (upd (upd (upd (upd (upd (upd (upd (upd (upd (upd (upd (upd (upd (upd (upd (upd (upd (upd (upd (upd (upd (upd (fun _ => 0) 0 (4 : Int32)) 1 (4 : Int32)) 2 (4 : Int32)) 3 (9 : Int32)) 4 (40 : Int32)) 5 (8 : Int32)) 6 (0 : Int32)) 7 (30 : Int32)) 8 (0 : Int32)) 9 (50 : Int32)) 13 (1 : Int32)) 14 (31 : Int32)) 15 (100 : Int32)) 16 (50 : Int32)) 20 (2 : Int32)) 21 (32 : Int32)) 22 (200 : Int32)) 23 (50 : Int32)) 27 (0 : Int32)) 28 (33 : Int32)) 29 (300 : Int32)) 30 (50 : Int32)) 34 (1 : Int32)) 35 (34 : Int32)) 36 (400 : Int32)) 37 (50 : Int32)) 41 (2 : Int32)) 42 (35 : Int32)) 43 (500 : Int32)), rwC r_1 cI 129 (fun _ => 0), rwC r_2 cI 129 (fun _ => 0), rwC r_3 cI 774 (fun _ => 0), rwC r_4 cI 8 (fun _ => 0), rwC r_5 cI 8 (fun _ => 0), rwC r_6 cI 60 (fun _ => 0)].flatten) rfl (fun H locs hP hD hS => ?_)
  refine lv_aload_n hx hb dX6_init_161 rfl (lv_at hl 2 rfl) ?_
  refine va_get (D := G) (ci := 4) (C := RX6) (T := TX6) (N := 15) hx hb hw in_X6 hown hK hP 0 rfl rfl 1 (by decide) (hw _ aw_872) (fun _ h9 => h9) rfl dX6_init_162 ?_
  refine lv_iload_n hx hb dX6_init_165 rfl (lv_at hl 0 rfl) ?_
  refine lv_iconst (v := 3) hx hb dX6_init_166 (by decide) ?_
  refine lv_iadd hx hb dX6_init_167 ?_
  refine W.eq (g2 := F0 m 168 ls [.int (44 : Int32), .ref r_0]) rfl ?_
  refine lv_bipush (v := 50) hx hb dX6_init_168 (by decide) ?_
  refine nv_iast hx hb hK hP hD hS 1 0 rfl rfl 44 (by decide) (by decide) dX6_init_170 (ws' := [[(a, .inr (4, [.int 0, .ref r_0, .ref r_1, .ref r_2, .int 0, .ref r_3, .int 0, .ref r_4, .ref r_5, .ref r_6, .int 0, .int 0, .int 0, .int 0, .int 0]))], rwC r_0 cI 129 (upd (upd (upd (upd (upd (upd (upd (upd (upd (upd (upd (upd (upd (upd (upd (upd (upd (upd (upd (upd (upd (upd (upd (upd (upd (upd (upd (upd (upd (upd (fun _ => 0) 0 (4 : Int32)) 1 (4 : Int32)) 2 (4 : Int32)) 3 (9 : Int32)) 4 (40 : Int32)) 5 (8 : Int32)) 6 (0 : Int32)) 7 (30 : Int32)) 8 (0 : Int32)) 9 (50 : Int32)) 13 (1 : Int32)) 14 (31 : Int32)) 15 (100 : Int32)) 16 (50 : Int32)) 20 (2 : Int32)) 21 (32 : Int32)) 22 (200 : Int32)) 23 (50 : Int32)) 27 (0 : Int32)) 28 (33 : Int32)) 29 (300 : Int32)) 30 (50 : Int32)) 34 (1 : Int32)) 35 (34 : Int32)) 36 (400 : Int32)) 37 (50 : Int32)) 41 (2 : Int32)) 42 (35 : Int32)) 43 (500 : Int32)) 44 (50 : Int32)), rwC r_1 cI 129 (fun _ => 0), rwC r_2 cI 129 (fun _ => 0), rwC r_3 cI 774 (fun _ => 0), rwC r_4 cI 8 (fun _ => 0), rwC r_5 cI 8 (fun _ => 0), rwC r_6 cI 60 (fun _ => 0)].flatten) rfl (fun H locs hP hD hS => ?_)
  refine lv_iinc (v := 6) (k := 1) (lv' := [(1, .int (6 : Int32)), (2, .int (41 : Int32)), (0, .ref a)]) hx hb dX6_init_171 hl rfl rfl (by decide) rfl (fun ls hl => ?_)
  refine lv_goto (tgt := 112) hx hb dX6_init_174 (by decide) ?_
  refine lv_iload_n hx hb dX6_init_112 rfl (lv_at hl 0 rfl) ?_
  refine lv_bipush (v := 8) hx hb dX6_init_113 (by decide) ?_
  refine nv_ge hx hb 6 8 177 (by decide) (by decide) dX6_init_115 (by decide) (fun c => absurd c (by decide)) (fun _ => ?_)
  refine lv_bipush (v := 6) hx hb dX6_init_118 (by decide) ?_
  refine lv_bipush (v := 7) hx hb dX6_init_120 (by decide) ?_
  refine lv_iload_n hx hb dX6_init_122 rfl (lv_at hl 0 rfl) ?_
  refine lv_imul hx hb dX6_init_123 ?_
  refine W.eq (g2 := F0 m 124 ls [.int (42 : Int32), .int (6 : Int32)]) rfl ?_
  refine lv_iadd hx hb dX6_init_124 ?_
  refine W.eq (g2 := F0 m 125 ls [.int (48 : Int32)]) rfl ?_
  refine lv_istore_n (lv' := [(2, .int (48 : Int32)), (1, .int (6 : Int32)), (0, .ref a)]) hx hb dX6_init_125 rfl hl (by decide) rfl (fun ls hl => ?_)
  refine lv_aload_n hx hb dX6_init_126 rfl (lv_at hl 2 rfl) ?_
  refine va_get (D := G) (ci := 4) (C := RX6) (T := TX6) (N := 15) hx hb hw in_X6 hown hK hP 0 rfl rfl 1 (by decide) (hw _ aw_872) (fun _ h9 => h9) rfl dX6_init_127 ?_
  refine lv_iload_n hx hb dX6_init_130 rfl (lv_at hl 0 rfl) ?_
  refine lv_iconst (v := 0) hx hb dX6_init_131 (by decide) ?_
  refine lv_iadd hx hb dX6_init_132 ?_
  refine W.eq (g2 := F0 m 133 ls [.int (48 : Int32), .ref r_0]) rfl ?_
  refine lv_iload_n hx hb dX6_init_133 rfl (lv_at hl 1 rfl) ?_
  refine lv_iconst (v := 3) hx hb dX6_init_134 (by decide) ?_
  refine lv_irem hx hb dX6_init_135 (by decide) ?_
  refine W.eq (g2 := F0 m 136 ls [.int (0 : Int32), .int (48 : Int32), .ref r_0]) rfl ?_
  refine nv_iast hx hb hK hP hD hS 1 0 rfl rfl 48 (by decide) (by decide) dX6_init_136 (ws' := [[(a, .inr (4, [.int 0, .ref r_0, .ref r_1, .ref r_2, .int 0, .ref r_3, .int 0, .ref r_4, .ref r_5, .ref r_6, .int 0, .int 0, .int 0, .int 0, .int 0]))], rwC r_0 cI 129 (upd (upd (upd (upd (upd (upd (upd (upd (upd (upd (upd (upd (upd (upd (upd (upd (upd (upd (upd (upd (upd (upd (upd (upd (upd (upd (upd (upd (upd (upd (upd (fun _ => 0) 0 (4 : Int32)) 1 (4 : Int32)) 2 (4 : Int32)) 3 (9 : Int32)) 4 (40 : Int32)) 5 (8 : Int32)) 6 (0 : Int32)) 7 (30 : Int32)) 8 (0 : Int32)) 9 (50 : Int32)) 13 (1 : Int32)) 14 (31 : Int32)) 15 (100 : Int32)) 16 (50 : Int32)) 20 (2 : Int32)) 21 (32 : Int32)) 22 (200 : Int32)) 23 (50 : Int32)) 27 (0 : Int32)) 28 (33 : Int32)) 29 (300 : Int32)) 30 (50 : Int32)) 34 (1 : Int32)) 35 (34 : Int32)) 36 (400 : Int32)) 37 (50 : Int32)) 41 (2 : Int32)) 42 (35 : Int32)) 43 (500 : Int32)) 44 (50 : Int32)) 48 (0 : Int32)), rwC r_1 cI 129 (fun _ => 0), rwC r_2 cI 129 (fun _ => 0), rwC r_3 cI 774 (fun _ => 0), rwC r_4 cI 8 (fun _ => 0), rwC r_5 cI 8 (fun _ => 0), rwC r_6 cI 60 (fun _ => 0)].flatten) rfl (fun H locs hP hD hS => ?_)
  refine lv_aload_n hx hb dX6_init_137 rfl (lv_at hl 2 rfl) ?_
  refine va_get (D := G) (ci := 4) (C := RX6) (T := TX6) (N := 15) hx hb hw in_X6 hown hK hP 0 rfl rfl 1 (by decide) (hw _ aw_872) (fun _ h9 => h9) rfl dX6_init_138 ?_
  refine lv_iload_n hx hb dX6_init_141 rfl (lv_at hl 0 rfl) ?_
  refine lv_iconst (v := 1) hx hb dX6_init_142 (by decide) ?_
  refine lv_iadd hx hb dX6_init_143 ?_
  refine W.eq (g2 := F0 m 144 ls [.int (49 : Int32), .ref r_0]) rfl ?_
  refine lv_bipush (v := 30) hx hb dX6_init_144 (by decide) ?_
  refine lv_iload_n hx hb dX6_init_146 rfl (lv_at hl 1 rfl) ?_
  refine lv_iadd hx hb dX6_init_147 ?_
  refine W.eq (g2 := F0 m 148 ls [.int (36 : Int32), .int (49 : Int32), .ref r_0]) rfl ?_
  refine nv_iast hx hb hK hP hD hS 1 0 rfl rfl 49 (by decide) (by decide) dX6_init_148 (ws' := [[(a, .inr (4, [.int 0, .ref r_0, .ref r_1, .ref r_2, .int 0, .ref r_3, .int 0, .ref r_4, .ref r_5, .ref r_6, .int 0, .int 0, .int 0, .int 0, .int 0]))], rwC r_0 cI 129 (upd (upd (upd (upd (upd (upd (upd (upd (upd (upd (upd (upd (upd (upd (upd (upd (upd (upd (upd (upd (upd (upd (upd (upd (upd (upd (upd (upd (upd (upd (upd (upd (fun _ => 0) 0 (4 : Int32)) 1 (4 : Int32)) 2 (4 : Int32)) 3 (9 : Int32)) 4 (40 : Int32)) 5 (8 : Int32)) 6 (0 : Int32)) 7 (30 : Int32)) 8 (0 : Int32)) 9 (50 : Int32)) 13 (1 : Int32)) 14 (31 : Int32)) 15 (100 : Int32)) 16 (50 : Int32)) 20 (2 : Int32)) 21 (32 : Int32)) 22 (200 : Int32)) 23 (50 : Int32)) 27 (0 : Int32)) 28 (33 : Int32)) 29 (300 : Int32)) 30 (50 : Int32)) 34 (1 : Int32)) 35 (34 : Int32)) 36 (400 : Int32)) 37 (50 : Int32)) 41 (2 : Int32)) 42 (35 : Int32)) 43 (500 : Int32)) 44 (50 : Int32)) 48 (0 : Int32)) 49 (36 : Int32)), rwC r_1 cI 129 (fun _ => 0), rwC r_2 cI 129 (fun _ => 0), rwC r_3 cI 774 (fun _ => 0), rwC r_4 cI 8 (fun _ => 0), rwC r_5 cI 8 (fun _ => 0), rwC r_6 cI 60 (fun _ => 0)].flatten) rfl (fun H locs hP hD hS => ?_)
  refine lv_aload_n hx hb dX6_init_149 rfl (lv_at hl 2 rfl) ?_
  refine va_get (D := G) (ci := 4) (C := RX6) (T := TX6) (N := 15) hx hb hw in_X6 hown hK hP 0 rfl rfl 1 (by decide) (hw _ aw_872) (fun _ h9 => h9) rfl dX6_init_150 ?_
  refine lv_iload_n hx hb dX6_init_153 rfl (lv_at hl 0 rfl) ?_
  refine lv_iconst (v := 2) hx hb dX6_init_154 (by decide) ?_
  refine lv_iadd hx hb dX6_init_155 ?_
  refine W.eq (g2 := F0 m 156 ls [.int (50 : Int32), .ref r_0]) rfl ?_
  refine lv_bipush (v := 100) hx hb dX6_init_156 (by decide) ?_
  refine lv_iload_n hx hb dX6_init_158 rfl (lv_at hl 1 rfl) ?_
  refine lv_imul hx hb dX6_init_159 ?_
  refine W.eq (g2 := F0 m 160 ls [.int (600 : Int32), .int (50 : Int32), .ref r_0]) rfl ?_
  refine nv_iast hx hb hK hP hD hS 1 0 rfl rfl 50 (by decide) (by decide) dX6_init_160 (ws' := [[(a, .inr (4, [.int 0, .ref r_0, .ref r_1, .ref r_2, .int 0, .ref r_3, .int 0, .ref r_4, .ref r_5, .ref r_6, .int 0, .int 0, .int 0, .int 0, .int 0]))], rwC r_0 cI 129 (upd (upd (upd (upd (upd (upd (upd (upd (upd (upd (upd (upd (upd (upd (upd (upd (upd (upd (upd (upd (upd (upd (upd (upd (upd (upd (upd (upd (upd (upd (upd (upd (upd (fun _ => 0) 0 (4 : Int32)) 1 (4 : Int32)) 2 (4 : Int32)) 3 (9 : Int32)) 4 (40 : Int32)) 5 (8 : Int32)) 6 (0 : Int32)) 7 (30 : Int32)) 8 (0 : Int32)) 9 (50 : Int32)) 13 (1 : Int32)) 14 (31 : Int32)) 15 (100 : Int32)) 16 (50 : Int32)) 20 (2 : Int32)) 21 (32 : Int32)) 22 (200 : Int32)) 23 (50 : Int32)) 27 (0 : Int32)) 28 (33 : Int32)) 29 (300 : Int32)) 30 (50 : Int32)) 34 (1 : Int32)) 35 (34 : Int32)) 36 (400 : Int32)) 37 (50 : Int32)) 41 (2 : Int32)) 42 (35 : Int32)) 43 (500 : Int32)) 44 (50 : Int32)) 48 (0 : Int32)) 49 (36 : Int32)) 50 (600 : Int32)), rwC r_1 cI 129 (fun _ => 0), rwC r_2 cI 129 (fun _ => 0), rwC r_3 cI 774 (fun _ => 0), rwC r_4 cI 8 (fun _ => 0), rwC r_5 cI 8 (fun _ => 0), rwC r_6 cI 60 (fun _ => 0)].flatten) rfl (fun H locs hP hD hS => ?_)
  refine lv_aload_n hx hb dX6_init_161 rfl (lv_at hl 2 rfl) ?_
  refine va_get (D := G) (ci := 4) (C := RX6) (T := TX6) (N := 15) hx hb hw in_X6 hown hK hP 0 rfl rfl 1 (by decide) (hw _ aw_872) (fun _ h9 => h9) rfl dX6_init_162 ?_
  refine lv_iload_n hx hb dX6_init_165 rfl (lv_at hl 0 rfl) ?_
  refine lv_iconst (v := 3) hx hb dX6_init_166 (by decide) ?_
  refine lv_iadd hx hb dX6_init_167 ?_
  refine W.eq (g2 := F0 m 168 ls [.int (51 : Int32), .ref r_0]) rfl ?_
  refine lv_bipush (v := 50) hx hb dX6_init_168 (by decide) ?_
  refine nv_iast hx hb hK hP hD hS 1 0 rfl rfl 51 (by decide) (by decide) dX6_init_170 (ws' := [[(a, .inr (4, [.int 0, .ref r_0, .ref r_1, .ref r_2, .int 0, .ref r_3, .int 0, .ref r_4, .ref r_5, .ref r_6, .int 0, .int 0, .int 0, .int 0, .int 0]))], rwC r_0 cI 129 (upd (upd (upd (upd (upd (upd (upd (upd (upd (upd (upd (upd (upd (upd (upd (upd (upd (upd (upd (upd (upd (upd (upd (upd (upd (upd (upd (upd (upd (upd (upd (upd (upd (upd (fun _ => 0) 0 (4 : Int32)) 1 (4 : Int32)) 2 (4 : Int32)) 3 (9 : Int32)) 4 (40 : Int32)) 5 (8 : Int32)) 6 (0 : Int32)) 7 (30 : Int32)) 8 (0 : Int32)) 9 (50 : Int32)) 13 (1 : Int32)) 14 (31 : Int32)) 15 (100 : Int32)) 16 (50 : Int32)) 20 (2 : Int32)) 21 (32 : Int32)) 22 (200 : Int32)) 23 (50 : Int32)) 27 (0 : Int32)) 28 (33 : Int32)) 29 (300 : Int32)) 30 (50 : Int32)) 34 (1 : Int32)) 35 (34 : Int32)) 36 (400 : Int32)) 37 (50 : Int32)) 41 (2 : Int32)) 42 (35 : Int32)) 43 (500 : Int32)) 44 (50 : Int32)) 48 (0 : Int32)) 49 (36 : Int32)) 50 (600 : Int32)) 51 (50 : Int32)), rwC r_1 cI 129 (fun _ => 0), rwC r_2 cI 129 (fun _ => 0), rwC r_3 cI 774 (fun _ => 0), rwC r_4 cI 8 (fun _ => 0), rwC r_5 cI 8 (fun _ => 0), rwC r_6 cI 60 (fun _ => 0)].flatten) rfl (fun H locs hP hD hS => ?_)
  refine lv_iinc (v := 7) (k := 1) (lv' := [(1, .int (7 : Int32)), (2, .int (48 : Int32)), (0, .ref a)]) hx hb dX6_init_171 hl rfl rfl (by decide) rfl (fun ls hl => ?_)
  refine lv_goto (tgt := 112) hx hb dX6_init_174 (by decide) ?_
  refine lv_iload_n hx hb dX6_init_112 rfl (lv_at hl 0 rfl) ?_
  refine lv_bipush (v := 8) hx hb dX6_init_113 (by decide) ?_
  refine nv_ge hx hb 7 8 177 (by decide) (by decide) dX6_init_115 (by decide) (fun c => absurd c (by decide)) (fun _ => ?_)
  refine lv_bipush (v := 6) hx hb dX6_init_118 (by decide) ?_
  refine lv_bipush (v := 7) hx hb dX6_init_120 (by decide) ?_
  refine lv_iload_n hx hb dX6_init_122 rfl (lv_at hl 0 rfl) ?_
  refine lv_imul hx hb dX6_init_123 ?_
  refine W.eq (g2 := F0 m 124 ls [.int (49 : Int32), .int (6 : Int32)]) rfl ?_
  refine lv_iadd hx hb dX6_init_124 ?_
  refine W.eq (g2 := F0 m 125 ls [.int (55 : Int32)]) rfl ?_
  refine lv_istore_n (lv' := [(2, .int (55 : Int32)), (1, .int (7 : Int32)), (0, .ref a)]) hx hb dX6_init_125 rfl hl (by decide) rfl (fun ls hl => ?_)
  refine lv_aload_n hx hb dX6_init_126 rfl (lv_at hl 2 rfl) ?_
  refine va_get (D := G) (ci := 4) (C := RX6) (T := TX6) (N := 15) hx hb hw in_X6 hown hK hP 0 rfl rfl 1 (by decide) (hw _ aw_872) (fun _ h9 => h9) rfl dX6_init_127 ?_
  refine lv_iload_n hx hb dX6_init_130 rfl (lv_at hl 0 rfl) ?_
  refine lv_iconst (v := 0) hx hb dX6_init_131 (by decide) ?_
  refine lv_iadd hx hb dX6_init_132 ?_
  refine W.eq (g2 := F0 m 133 ls [.int (55 : Int32), .ref r_0]) rfl ?_
  refine lv_iload_n hx hb dX6_init_133 rfl (lv_at hl 1 rfl) ?_
  refine lv_iconst (v := 3) hx hb dX6_init_134 (by decide) ?_
  refine lv_irem hx hb dX6_init_135 (by decide) ?_
  refine W.eq (g2 := F0 m 136 ls [.int (1 : Int32), .int (55 : Int32), .ref r_0]) rfl ?_
  refine nv_iast hx hb hK hP hD hS 1 0 rfl rfl 55 (by decide) (by decide) dX6_init_136 (ws' := [[(a, .inr (4, [.int 0, .ref r_0, .ref r_1, .ref r_2, .int 0, .ref r_3, .int 0, .ref r_4, .ref r_5, .ref r_6, .int 0, .int 0, .int 0, .int 0, .int 0]))], rwC r_0 cI 129 (upd (upd (upd (upd (upd (upd (upd (upd (upd (upd (upd (upd (upd (upd (upd (upd (upd (upd (upd (upd (upd (upd (upd (upd (upd (upd (upd (upd (upd (upd (upd (upd (upd (upd (upd (fun _ => 0) 0 (4 : Int32)) 1 (4 : Int32)) 2 (4 : Int32)) 3 (9 : Int32)) 4 (40 : Int32)) 5 (8 : Int32)) 6 (0 : Int32)) 7 (30 : Int32)) 8 (0 : Int32)) 9 (50 : Int32)) 13 (1 : Int32)) 14 (31 : Int32)) 15 (100 : Int32)) 16 (50 : Int32)) 20 (2 : Int32)) 21 (32 : Int32)) 22 (200 : Int32)) 23 (50 : Int32)) 27 (0 : Int32)) 28 (33 : Int32)) 29 (300 : Int32)) 30 (50 : Int32)) 34 (1 : Int32)) 35 (34 : Int32)) 36 (400 : Int32)) 37 (50 : Int32)) 41 (2 : Int32)) 42 (35 : Int32)) 43 (500 : Int32)) 44 (50 : Int32)) 48 (0 : Int32)) 49 (36 : Int32)) 50 (600 : Int32)) 51 (50 : Int32)) 55 (1 : Int32)), rwC r_1 cI 129 (fun _ => 0), rwC r_2 cI 129 (fun _ => 0), rwC r_3 cI 774 (fun _ => 0), rwC r_4 cI 8 (fun _ => 0), rwC r_5 cI 8 (fun _ => 0), rwC r_6 cI 60 (fun _ => 0)].flatten) rfl (fun H locs hP hD hS => ?_)
  refine lv_aload_n hx hb dX6_init_137 rfl (lv_at hl 2 rfl) ?_
  refine va_get (D := G) (ci := 4) (C := RX6) (T := TX6) (N := 15) hx hb hw in_X6 hown hK hP 0 rfl rfl 1 (by decide) (hw _ aw_872) (fun _ h9 => h9) rfl dX6_init_138 ?_
  refine lv_iload_n hx hb dX6_init_141 rfl (lv_at hl 0 rfl) ?_
  refine lv_iconst (v := 1) hx hb dX6_init_142 (by decide) ?_
  refine lv_iadd hx hb dX6_init_143 ?_
  refine W.eq (g2 := F0 m 144 ls [.int (56 : Int32), .ref r_0]) rfl ?_
  refine lv_bipush (v := 30) hx hb dX6_init_144 (by decide) ?_
  refine lv_iload_n hx hb dX6_init_146 rfl (lv_at hl 1 rfl) ?_
  refine lv_iadd hx hb dX6_init_147 ?_
  refine W.eq (g2 := F0 m 148 ls [.int (37 : Int32), .int (56 : Int32), .ref r_0]) rfl ?_
  refine nv_iast hx hb hK hP hD hS 1 0 rfl rfl 56 (by decide) (by decide) dX6_init_148 (ws' := [[(a, .inr (4, [.int 0, .ref r_0, .ref r_1, .ref r_2, .int 0, .ref r_3, .int 0, .ref r_4, .ref r_5, .ref r_6, .int 0, .int 0, .int 0, .int 0, .int 0]))], rwC r_0 cI 129 (upd (upd (upd (upd (upd (upd (upd (upd (upd (upd (upd (upd (upd (upd (upd (upd (upd (upd (upd (upd (upd (upd (upd (upd (upd (upd (upd (upd (upd (upd (upd (upd (upd (upd (upd (upd (fun _ => 0) 0 (4 : Int32)) 1 (4 : Int32)) 2 (4 : Int32)) 3 (9 : Int32)) 4 (40 : Int32)) 5 (8 : Int32)) 6 (0 : Int32)) 7 (30 : Int32)) 8 (0 : Int32)) 9 (50 : Int32)) 13 (1 : Int32)) 14 (31 : Int32)) 15 (100 : Int32)) 16 (50 : Int32)) 20 (2 : Int32)) 21 (32 : Int32)) 22 (200 : Int32)) 23 (50 : Int32)) 27 (0 : Int32)) 28 (33 : Int32)) 29 (300 : Int32)) 30 (50 : Int32)) 34 (1 : Int32)) 35 (34 : Int32)) 36 (400 : Int32)) 37 (50 : Int32)) 41 (2 : Int32)) 42 (35 : Int32)) 43 (500 : Int32)) 44 (50 : Int32)) 48 (0 : Int32)) 49 (36 : Int32)) 50 (600 : Int32)) 51 (50 : Int32)) 55 (1 : Int32)) 56 (37 : Int32)), rwC r_1 cI 129 (fun _ => 0), rwC r_2 cI 129 (fun _ => 0), rwC r_3 cI 774 (fun _ => 0), rwC r_4 cI 8 (fun _ => 0), rwC r_5 cI 8 (fun _ => 0), rwC r_6 cI 60 (fun _ => 0)].flatten) rfl (fun H locs hP hD hS => ?_)
  refine lv_aload_n hx hb dX6_init_149 rfl (lv_at hl 2 rfl) ?_
  refine va_get (D := G) (ci := 4) (C := RX6) (T := TX6) (N := 15) hx hb hw in_X6 hown hK hP 0 rfl rfl 1 (by decide) (hw _ aw_872) (fun _ h9 => h9) rfl dX6_init_150 ?_
  refine lv_iload_n hx hb dX6_init_153 rfl (lv_at hl 0 rfl) ?_
  refine lv_iconst (v := 2) hx hb dX6_init_154 (by decide) ?_
  refine lv_iadd hx hb dX6_init_155 ?_
  refine W.eq (g2 := F0 m 156 ls [.int (57 : Int32), .ref r_0]) rfl ?_
  refine lv_bipush (v := 100) hx hb dX6_init_156 (by decide) ?_
  refine lv_iload_n hx hb dX6_init_158 rfl (lv_at hl 1 rfl) ?_
  refine lv_imul hx hb dX6_init_159 ?_
  refine W.eq (g2 := F0 m 160 ls [.int (700 : Int32), .int (57 : Int32), .ref r_0]) rfl ?_
  refine nv_iast hx hb hK hP hD hS 1 0 rfl rfl 57 (by decide) (by decide) dX6_init_160 (ws' := [[(a, .inr (4, [.int 0, .ref r_0, .ref r_1, .ref r_2, .int 0, .ref r_3, .int 0, .ref r_4, .ref r_5, .ref r_6, .int 0, .int 0, .int 0, .int 0, .int 0]))], rwC r_0 cI 129 (upd (upd (upd (upd (upd (upd (upd (upd (upd (upd (upd (upd (upd (upd (upd (upd (upd (upd (upd (upd (upd (upd (upd (upd (upd (upd (upd (upd (upd (upd (upd (upd (upd (upd (upd (upd (upd (fun _ => 0) 0 (4 : Int32)) 1 (4 : Int32)) 2 (4 : Int32)) 3 (9 : Int32)) 4 (40 : Int32)) 5 (8 : Int32)) 6 (0 : Int32)) 7 (30 : Int32)) 8 (0 : Int32)) 9 (50 : Int32)) 13 (1 : Int32)) 14 (31 : Int32)) 15 (100 : Int32)) 16 (50 : Int32)) 20 (2 : Int32)) 21 (32 : Int32)) 22 (200 : Int32)) 23 (50 : Int32)) 27 (0 : Int32)) 28 (33 : Int32)) 29 (300 : Int32)) 30 (50 : Int32)) 34 (1 : Int32)) 35 (34 : Int32)) 36 (400 : Int32)) 37 (50 : Int32)) 41 (2 : Int32)) 42 (35 : Int32)) 43 (500 : Int32)) 44 (50 : Int32)) 48 (0 : Int32)) 49 (36 : Int32)) 50 (600 : Int32)) 51 (50 : Int32)) 55 (1 : Int32)) 56 (37 : Int32)) 57 (700 : Int32)), rwC r_1 cI 129 (fun _ => 0), rwC r_2 cI 129 (fun _ => 0), rwC r_3 cI 774 (fun _ => 0), rwC r_4 cI 8 (fun _ => 0), rwC r_5 cI 8 (fun _ => 0), rwC r_6 cI 60 (fun _ => 0)].flatten) rfl (fun H locs hP hD hS => ?_)
  refine lv_aload_n hx hb dX6_init_161 rfl (lv_at hl 2 rfl) ?_
  refine va_get (D := G) (ci := 4) (C := RX6) (T := TX6) (N := 15) hx hb hw in_X6 hown hK hP 0 rfl rfl 1 (by decide) (hw _ aw_872) (fun _ h9 => h9) rfl dX6_init_162 ?_
  refine lv_iload_n hx hb dX6_init_165 rfl (lv_at hl 0 rfl) ?_
  refine lv_iconst (v := 3) hx hb dX6_init_166 (by decide) ?_
  refine lv_iadd hx hb dX6_init_167 ?_
  refine W.eq (g2 := F0 m 168 ls [.int (58 : Int32), .ref r_0]) rfl ?_
  refine lv_bipush (v := 50) hx hb dX6_init_168 (by decide) ?_
  refine nv_iast hx hb hK hP hD hS 1 0 rfl rfl 58 (by decide) (by decide) dX6_init_170 (ws' := [[(a, .inr (4, [.int 0, .ref r_0, .ref r_1, .ref r_2, .int 0, .ref r_3, .int 0, .ref r_4, .ref r_5, .ref r_6, .int 0, .int 0, .int 0, .int 0, .int 0]))], rwC r_0 cI 129 (upd (upd (upd (upd (upd (upd (upd (upd (upd (upd (upd (upd (upd (upd (upd (upd (upd (upd (upd (upd (upd (upd (upd (upd (upd (upd (upd (upd (upd (upd (upd (upd (upd (upd (upd (upd (upd (upd (fun _ => 0) 0 (4 : Int32)) 1 (4 : Int32)) 2 (4 : Int32)) 3 (9 : Int32)) 4 (40 : Int32)) 5 (8 : Int32)) 6 (0 : Int32)) 7 (30 : Int32)) 8 (0 : Int32)) 9 (50 : Int32)) 13 (1 : Int32)) 14 (31 : Int32)) 15 (100 : Int32)) 16 (50 : Int32)) 20 (2 : Int32)) 21 (32 : Int32)) 22 (200 : Int32)) 23 (50 : Int32)) 27 (0 : Int32)) 28 (33 : Int32)) 29 (300 : Int32)) 30 (50 : Int32)) 34 (1 : Int32)) 35 (34 : Int32)) 36 (400 : Int32)) 37 (50 : Int32)) 41 (2 : Int32)) 42 (35 : Int32)) 43 (500 : Int32)) 44 (50 : Int32)) 48 (0 : Int32)) 49 (36 : Int32)) 50 (600 : Int32)) 51 (50 : Int32)) 55 (1 : Int32)) 56 (37 : Int32)) 57 (700 : Int32)) 58 (50 : Int32)), rwC r_1 cI 129 (fun _ => 0), rwC r_2 cI 129 (fun _ => 0), rwC r_3 cI 774 (fun _ => 0), rwC r_4 cI 8 (fun _ => 0), rwC r_5 cI 8 (fun _ => 0), rwC r_6 cI 60 (fun _ => 0)].flatten) rfl (fun H locs hP hD hS => ?_)
  refine lv_iinc (v := 8) (k := 1) (lv' := [(1, .int (8 : Int32)), (2, .int (55 : Int32)), (0, .ref a)]) hx hb dX6_init_171 hl rfl rfl (by decide) rfl (fun ls hl => ?_)
  refine lv_goto (tgt := 112) hx hb dX6_init_174 (by decide) ?_
  refine lv_iload_n hx hb dX6_init_112 rfl (lv_at hl 0 rfl) ?_
  refine lv_bipush (v := 8) hx hb dX6_init_113 (by decide) ?_
  refine nv_ge hx hb 8 8 177 (by decide) (by decide) dX6_init_115 (by decide) (fun _ => ?_) (fun c => absurd (by decide) c)
  exact W.vret hx hb hr (ct_endN (wf := fun x : List Nat => [mdC (nth (a :: x)) 0 false 0 0 0 false false 0, rwC (nth (a :: x) 1) cI 129 iM_now, rwC (nth (a :: x) 2) cI 129 iM_trial, rwC (nth (a :: x) 3) cI 129 iM_shot, rwC (nth (a :: x) 4) cI 774 iM_book, rwC (nth (a :: x) 5) cI 8 iM_pulls, rwC (nth (a :: x) 6) cI 8 iM_group, rwC (nth (a :: x) 7) cI 60 iM_text].flatten) [r_0, r_1, r_2, r_3, r_4, r_5, r_6] hP hD hS) hS.2.2 dX6_init_177
