/-! the law: its switch, its loop, its run -/
section LOOP
variable {p : Program} {l : Launch} {e : Env} {s : State} {m : MethodId} {below : List Frame} {meth : Method} {c : Code} {H : Heap} {locs : List Loc} {cells slots : Nat} {Q : State → Prop} {G : va_G} {cI cS cL : ClassId} {ad : Nat → Nat} {mp b L : Nat} {xs : Nat → Int32} {i : Nat} {ls : Array Slot} {q qn qt qs qH qx q6 : Nat → Nat} {ao : Nat} {bs : List va_W}
set_option maxHeartbeats 4000000 in
theorem law_one (h0 : LX p l s m c G cI cS cL ad mp b L xs) (hi : i + 3 < L) (hl : lv_has ls 9 [(4, .int (nI i)), (3, .ref ao), (2, .ref (q6 0)), (1, .ref (q 0)), (0, .ref b)]) (hW : Wok q qn qt qs qH qx q6 ao cI cS cL ad bs) (hP : va_P G classes bs.flatten H) (hD : va_D (fun q : Nat => s.heap.size ≤ q) bs.flatten) (hS : va_S (fun q : Nat => s.heap.size ≤ q) s.heap H locs) (hf : cells + 1 ≤ room_1.cells ∧ slots + 6 ≤ room_1.slots) (v : Int32)
  (K : ∀ (bs : List va_W) (ls : Array Slot) (H : Heap) (locs : List Loc), Wok q qn qt qs qH qx q6 ao cI cS cL ad bs → lv_has ls 9 [(4, .int (nI i)), (3, .ref ao), (2, .ref (q6 0)), (1, .ref (q 0)), (0, .ref b)] → va_P G classes bs.flatten H → va_D (fun q : Nat => s.heap.size ≤ q) bs.flatten → va_S (fun q : Nat => s.heap.size ≤ q) s.heap H locs → W p l e room_1 s m #[Value.ref b] below meth c H locs (cells + 1) (slots + 6) Q (F0 m 1478 ls [])) : W p l e room_1 s m #[Value.ref b] below meth c H locs cells slots Q (F0 m 39 ls [.int v]) := by
  have hx := h0.1.1
  have hb := h0.1.2.1
  by_cases c0 : v = Int32.ofInt 0
  · refine lv_tableIn (off := 117) (tgt := 156) hx hb dL_law_39 (by rw [c0]; decide) (by rw [c0]; decide) (by rw [c0]; rfl) (by decide) ?_
    exact op_pass h0 hi hl hW hP hD hS hf K
  by_cases c1 : v = Int32.ofInt 1
  · refine lv_tableIn (off := 173) (tgt := 212) hx hb dL_law_39 (by rw [c1]; decide) (by rw [c1]; decide) (by rw [c1]; rfl) (by decide) ?_
    exact op_kick h0 hi hl hW hP hD hS hf K
  by_cases c2 : v = Int32.ofInt 2
  · refine lv_tableIn (off := 241) (tgt := 280) hx hb dL_law_39 (by rw [c2]; decide) (by rw [c2]; decide) (by rw [c2]; rfl) (by decide) ?_
    exact op_move h0 hi hl hW hP hD hS hf K
  by_cases c3 : v = Int32.ofInt 3
  · refine lv_tableIn (off := 309) (tgt := 348) hx hb dL_law_39 (by rw [c3]; decide) (by rw [c3]; decide) (by rw [c3]; rfl) (by decide) ?_
    exact op_wind h0 hi hl hW hP hD hS hf K
  by_cases c4 : v = Int32.ofInt 4
  · refine lv_tableIn (off := 365) (tgt := 404) hx hb dL_law_39 (by rw [c4]; decide) (by rw [c4]; decide) (by rw [c4]; rfl) (by decide) ?_
    exact op_speed h0 hi hl hW hP hD hS hf K
  by_cases c5 : v = Int32.ofInt 5
  · refine lv_tableIn (off := 433) (tgt := 472) hx hb dL_law_39 (by rw [c5]; decide) (by rw [c5]; decide) (by rw [c5]; rfl) (by decide) ?_
    exact op_give h0 hi hl hW hP hD hS hf K
  by_cases c6 : v = Int32.ofInt 6
  · refine lv_tableIn (off := 501) (tgt := 540) hx hb dL_law_39 (by rw [c6]; decide) (by rw [c6]; decide) (by rw [c6]; rfl) (by decide) ?_
    exact op_set h0 hi hl hW hP hD hS hf K
  by_cases c7 : v = Int32.ofInt 7
  · refine lv_tableIn (off := 569) (tgt := 608) hx hb dL_law_39 (by rw [c7]; decide) (by rw [c7]; decide) (by rw [c7]; rfl) (by decide) ?_
    exact op_append h0 hi hl hW hP hD hS hf K
  by_cases c8 : v = Int32.ofInt 8
  · refine lv_tableIn (off := 625) (tgt := 664) hx hb dL_law_39 (by rw [c8]; decide) (by rw [c8]; decide) (by rw [c8]; rfl) (by decide) ?_
    exact op_clearBuffer h0 hi hl hW hP hD hS hf K
  by_cases c9 : v = Int32.ofInt 9
  · refine lv_tableIn (off := 638) (tgt := 677) hx hb dL_law_39 (by rw [c9]; decide) (by rw [c9]; decide) (by rw [c9]; rfl) (by decide) ?_
    exact op_firstError h0 hi hl hW hP hD hS hf K
  by_cases c10 : v = Int32.ofInt 10
  · refine lv_tableIn (off := 651) (tgt := 690) hx hb dL_law_39 (by rw [c10]; decide) (by rw [c10]; decide) (by rw [c10]; rfl) (by decide) ?_
    exact op_obey h0 hi hl hW hP hD hS hf K
  by_cases c11 : v = Int32.ofInt 11
  · refine lv_tableIn (off := 695) (tgt := 734) hx hb dL_law_39 (by rw [c11]; decide) (by rw [c11]; decide) (by rw [c11]; rfl) (by decide) ?_
    exact op_keep h0 hi hl hW hP hD hS hf K
  by_cases c12 : v = Int32.ofInt 12
  · refine lv_tableIn (off := 708) (tgt := 747) hx hb dL_law_39 (by rw [c12]; decide) (by rw [c12]; decide) (by rw [c12]; rfl) (by decide) ?_
    exact op_goBack h0 hi hl hW hP hD hS hf K
  by_cases c13 : v = Int32.ofInt 13
  · refine lv_tableIn (off := 752) (tgt := 791) hx hb dL_law_39 (by rw [c13]; decide) (by rw [c13]; decide) (by rw [c13]; rfl) (by decide) ?_
    exact op_undo h0 hi hl hW hP hD hS hf K
  by_cases c14 : v = Int32.ofInt 14
  · refine lv_tableIn (off := 796) (tgt := 835) hx hb dL_law_39 (by rw [c14]; decide) (by rw [c14]; decide) (by rw [c14]; rfl) (by decide) ?_
    exact op_clock h0 hi hl hW hP hD hS hf K
  by_cases c15 : v = Int32.ofInt 15
  · refine lv_tableIn (off := 864) (tgt := 903) hx hb dL_law_39 (by rw [c15]; decide) (by rw [c15]; decide) (by rw [c15]; rfl) (by decide) ?_
    exact op_pair h0 hi hl hW hP hD hS hf K
  by_cases c16 : v = Int32.ofInt 16
  · refine lv_tableIn (off := 944) (tgt := 983) hx hb dL_law_39 (by rw [c16]; decide) (by rw [c16]; decide) (by rw [c16]; rfl) (by decide) ?_
    exact op_beam h0 hi hl hW hP hD hS hf K
  by_cases c17 : v = Int32.ofInt 17
  · refine lv_tableIn (off := 1012) (tgt := 1051) hx hb dL_law_39 (by rw [c17]; decide) (by rw [c17]; decide) (by rw [c17]; rfl) (by decide) ?_
    exact op_count h0 hi hl hW hP hD hS hf K
  by_cases c18 : v = Int32.ofInt 18
  · refine lv_tableIn (off := 1068) (tgt := 1107) hx hb dL_law_39 (by rw [c18]; decide) (by rw [c18]; decide) (by rw [c18]; rfl) (by decide) ?_
    exact op_setting h0 hi hl hW hP hD hS hf K
  by_cases c19 : v = Int32.ofInt 19
  · refine lv_tableIn (off := 1124) (tgt := 1163) hx hb dL_law_39 (by rw [c19]; decide) (by rw [c19]; decide) (by rw [c19]; rfl) (by decide) ?_
    exact op_ifPassed h0 hi hl hW hP hD hS hf K
  by_cases c20 : v = Int32.ofInt 20
  · refine lv_tableIn (off := 1204) (tgt := 1243) hx hb dL_law_39 (by rw [c20]; decide) (by rw [c20]; decide) (by rw [c20]; rfl) (by decide) ?_
    exact op_lockedIn h0 hi hl hW hP hD hS hf K
  by_cases c21 : v = Int32.ofInt 21
  · refine lv_tableIn (off := 1272) (tgt := 1311) hx hb dL_law_39 (by rw [c21]; decide) (by rw [c21]; decide) (by rw [c21]; rfl) (by decide) ?_
    exact op_bestGive h0 hi hl hW hP hD hS hf K
  by_cases c22 : v = Int32.ofInt 22
  · refine lv_tableIn (off := 1328) (tgt := 1367) hx hb dL_law_39 (by rw [c22]; decide) (by rw [c22]; decide) (by rw [c22]; rfl) (by decide) ?_
    exact op_nextStrike h0 hi hl hW hP hD hS hf K
  by_cases c23 : v = Int32.ofInt 23
  · refine lv_tableIn (off := 1341) (tgt := 1380) hx hb dL_law_39 (by rw [c23]; decide) (by rw [c23]; decide) (by rw [c23]; rfl) (by decide) ?_
    exact op_stepShare h0 hi hl hW hP hD hS hf K
  by_cases c24 : v = Int32.ofInt 24
  · refine lv_tableIn (off := 1382) (tgt := 1421) hx hb dL_law_39 (by rw [c24]; decide) (by rw [c24]; decide) (by rw [c24]; rfl) (by decide) ?_
    exact op_meanGap h0 hi hl hW hP hD hS hf K
  by_cases c25 : v = Int32.ofInt 25
  · refine lv_tableIn (off := 1425) (tgt := 1464) hx hb dL_law_39 (by rw [c25]; decide) (by rw [c25]; decide) (by rw [c25]; rfl) (by decide) ?_
    exact op_digest h0 hi hl hW hP hD hS hf K
  refine lv_tableOut (tgt := 1478) hx hb dL_law_39 (sw_out (fun j a z => ?_)) (by decide) ?_
  · have hj : j = 0 ∨ j = 1 ∨ j = 2 ∨ j = 3 ∨ j = 4 ∨ j = 5 ∨ j = 6 ∨ j = 7 ∨ j = 8 ∨ j = 9 ∨ j = 10 ∨ j = 11 ∨ j = 12 ∨ j = 13 ∨ j = 14 ∨ j = 15 ∨ j = 16 ∨ j = 17 ∨ j = 18 ∨ j = 19 ∨ j = 20 ∨ j = 21 ∨ j = 22 ∨ j = 23 ∨ j = 24 ∨ j = 25 := by omega
    rcases hj with rfl | rfl | rfl | rfl | rfl | rfl | rfl | rfl | rfl | rfl | rfl | rfl | rfl | rfl | rfl | rfl | rfl | rfl | rfl | rfl | rfl | rfl | rfl | rfl | rfl | rfl <;> assumption
  · exact W.widen (Nat.le_add_right _ _) (Nat.le_add_right _ _) (K bs ls H locs hW hl hP hD hS)
set_option maxHeartbeats 4000000 in
theorem law_loop (h0 : LX p l s m c G cI cS cL ad mp b L xs) (Kx : ∀ (ls : Array Slot) (H : Heap) (locs : List Loc) (cells slots : Nat), cells ≤ 601024 → slots ≤ 7293034 → va_S (fun q : Nat => s.heap.size ≤ q) s.heap H locs → W p l e room_1 s m #[Value.ref b] below meth c H locs cells slots Q (F0 m 1484 ls [])) :
  ∀ (n i : Nat) (bs : List va_W) (ls : Array Slot) (H : Heap) (locs : List Loc) (cells slots : Nat), L ≤ i + n → i ≤ L + 3 → cells ≤ 200 + i → slots ≤ 3000 + 6 * i → lv_has ls 9 [(4, .int (nI i)), (3, .ref ao), (2, .ref (q6 0)), (1, .ref (q 0)), (0, .ref b)] → Wok q qn qt qs qH qx q6 ao cI cS cL ad bs → va_P G classes bs.flatten H → va_D (fun q : Nat => s.heap.size ≤ q) bs.flatten → va_S (fun q : Nat => s.heap.size ≤ q) s.heap H locs → W p l e room_1 s m #[Value.ref b] below meth c H locs cells slots Q (F0 m 23 ls []) := by
  obtain ⟨X, hC, hE, hX, hbl, hlt, hL⟩ := id h0
  have hx := X.1
  have hb := X.2.1
  intro n
  induction n with
  | zero =>
    intro i bs ls H locs cells slots g1 g2 g3 g4 hl hW hP hD hS
    refine lv_iload hx hb dL_law_23 (lv_at hl 0 rfl) ?_
    refine lv_aload_n hx hb dL_law_25 rfl (lv_at hl 4 rfl) ?_
    refine va_slen hx hb hX hbl (Nat.not_le.mpr hbl) hS dL_law_26 ?_
    refine lv_iconst (v := nI 4) hx hb dL_law_27 (by decide) ?_
    refine lv_isub hx hb dL_law_28 ?_
    have e1 : (nI L).toInt = (L : Int) := nI_toInt (by omega)
    have e2 : (nI 4).toInt = 4 := by decide
    have e3 : (nI i).toInt = (i : Int) := nI_toInt (by omega)
    have e4 := sub_toInt (a := nI L) (b := nI 4) (by rw [e1, e2]; omega) (by rw [e1, e2]; omega)
    refine lv_icmp_gt (x := nI i) (y := nI L - nI 4) (tgt := 1484) hx hb dL_law_29 (by decide) (fun _ => Kx ls H locs cells slots (by omega) (by omega) hS) (fun h => ?_)
    rw [Int32.lt_iff_toInt_lt, e4, e1, e2, e3] at h
    omega
  | succ n ih =>
    intro i bs ls H locs cells slots g1 g2 g3 g4 hl hW hP hD hS
    refine lv_iload hx hb dL_law_23 (lv_at hl 0 rfl) ?_
    refine lv_aload_n hx hb dL_law_25 rfl (lv_at hl 4 rfl) ?_
    refine va_slen hx hb hX hbl (Nat.not_le.mpr hbl) hS dL_law_26 ?_
    refine lv_iconst (v := nI 4) hx hb dL_law_27 (by decide) ?_
    refine lv_isub hx hb dL_law_28 ?_
    have e1 : (nI L).toInt = (L : Int) := nI_toInt (by omega)
    have e2 : (nI 4).toInt = 4 := by decide
    have e3 : (nI i).toInt = (i : Int) := nI_toInt (by omega)
    have e4 := sub_toInt (a := nI L) (b := nI 4) (by rw [e1, e2]; omega) (by rw [e1, e2]; omega)
    refine lv_icmp_gt (x := nI i) (y := nI L - nI 4) (tgt := 1484) hx hb dL_law_29 (by decide) (fun _ => Kx ls H locs cells slots (by omega) (by omega) hS) (fun h => ?_)
    rw [Int32.lt_iff_toInt_lt, e4, e1, e2, e3] at h
    have hi : i + 3 < L := by omega
    refine lv_aload_n hx hb dL_law_32 rfl (lv_at hl 4 rfl) ?_
    refine lv_iload hx hb dL_law_33 (lv_at hl 0 rfl) ?_
    refine va_sld hx hb hX hbl (Nat.not_le.mpr hbl) hS (vp_in_nI (by omega) (by omega)) dL_law_35 ?_
    refine lv_bipush (v := 31) hx hb dL_law_36 (by decide) ?_
    refine lv_iand hx hb dL_law_38 ?_
    refine law_one h0 hi hl hW hP hD hS ⟨(by show cells + 1 ≤ 601024; omega), (by show slots + 6 ≤ 7293034; omega)⟩ _ (fun bs ls H locs hW hl hP hD hS => ?_)
    refine lv_iinc (k := 0) (x := nI i) (v := nI (i + 4)) (lv' := [(4, .int (nI (i + 4))), (3, .ref ao), (2, .ref (q6 0)), (1, .ref (q 0)), (0, .ref b)]) hx hb dL_law_1478 hl rfl (nI_add i 4) (by decide) rfl (fun ls hl => ?_)
    refine lv_goto (tgt := 23) hx hb dL_law_1481 (by decide) ?_
    exact ih (i + 4) bs ls H locs (cells + 1) (slots + 6) (by omega) (by omega) (by omega) (by omega) hl hW hP hD hS
theorem RngT_born : RngT iSt := by
  have h1 : ∀ k, k < 8 → 0 ≤ (iS_beams k).toInt ∧ (iS_beams k).toInt < 3 := by decide +kernel
  have h2 : ∀ k, k < 8 → 10 ≤ (iS_speeds k).toInt ∧ (iS_speeds k).toInt ≤ 60 := by decide +kernel
  have h3 : ∀ k, k < 8 → 0 ≤ (iS_phases k).toInt ∧ (iS_phases k).toInt < 1000 := by decide +kernel
  have h4 : 0 ≤ (iS_settings 0).toInt ∧ (iS_settings 0).toInt ≤ 50 := by decide +kernel
  exact ⟨fun k hk => vp_in_iff.mpr (h1 k hk), h2, h3, h4⟩
theorem Inv_born (cc : Nat → StT) (shot book codes tx : Nat → Int32) : Inv iSt iSt false 0 cc iM_now shot book codes tx 0 0 :=
  ⟨Rel_born, RngT_born, (fun h => by cases h), RngT_born, ⟨Nat.zero_le _, fun i h => absurd h (Nat.not_lt_zero _)⟩, Nat.zero_le _, fun j h => absurd h (Nat.not_lt_zero _), fun j h => absurd h (Nat.not_lt_zero _), vp_in_iff.mpr (by decide)⟩
theorem fl1 (a : va_W) : a = [a].flatten := by rw [List.flatten_cons, List.flatten_nil, List.append_nil]
theorem fl2 (a b : va_W) : a ++ b = [a, b].flatten := by rw [List.flatten_cons, List.flatten_cons, List.flatten_nil, List.append_nil]
theorem fl15 (b0 b1 b2 b3 b4 b5 b6 b7 b8 b9 b10 b11 b12 b13 b14 : va_W) : [[b0, b1, b2, b3, b4, b5].flatten, [b6, b7, b8, b9, b10, b11, b12, b13].flatten].flatten ++ b14 = [b0, b1, b2, b3, b4, b5, b6, b7, b8, b9, b10, b11, b12, b13, b14].flatten := by
  simp only [List.flatten_cons, List.flatten_nil, List.append_nil, List.append_assoc]
set_option maxHeartbeats 4000000 in
theorem law_run0 (h0 : LX p l s m c G cI cS cL ad mp b L xs) (Kx : ∀ (ls : Array Slot) (H : Heap) (locs : List Loc) (cells slots : Nat), cells ≤ 601024 → slots ≤ 7293034 → va_S (fun q : Nat => s.heap.size ≤ q) s.heap H locs → W p l e room_1 s m #[Value.ref b] below meth c H locs cells slots Q (F0 m 1484 ls [])) (hl : lv_has ls 9 [(0, .ref b)]) : W p l e room_1 s m #[Value.ref b] below meth c s.heap [] 0 0 Q (F0 m 0 ls []) := by
  obtain ⟨X, hC, hE, hX, hbl, hlt, hL⟩ := id h0
  obtain ⟨hx, hb, hml, hown, hw, hK, hN⟩ := id X
  have hA : ∀ q : Nat, s.heap.size ≤ q → (fun q : Nat => s.heap.size ≤ q) q := fun _ h => h
  have hS : va_S (fun q : Nat => s.heap.size ≤ q) s.heap s.heap [] := va_S.rf
  have hP : va_P G classes ([] : va_W) s.heap := fun k q h => by cases h
  have hD : va_D (fun q : Nat => s.heap.size ≤ q) ([] : va_W) := ⟨(fun i j p q h => by cases h), (fun k q h => by cases h)⟩
  refine va_new (ci := 3) (fs := [.null, .null, .null, .null, .null, .int 0]) (C := RX5) (T := TX5) (N := 6) hx hb hw in_X5 tyX5 tyX5_ok hown (hw _ aw_86) (hw _ aw_87) (hw _ aw_67) hK hP hD hS hA rfl (by decide) (Nat.le_of_ble_eq_true rfl) (Nat.le_of_ble_eq_true rfl) dL_law_0 (fun r_0 H hP hD hS => ?_)
  have hP : va_P G classes [[(r_0, .inr (3, [.null, .null, .null, .null, .null, .int 0]))]].flatten H := hP
  have hD : va_D (fun q : Nat => s.heap.size ≤ q) [[(r_0, .inr (3, [.null, .null, .null, .null, .null, .int 0]))]].flatten := hD
  refine lv_dup hx hb dL_law_3 rfl ?_
  refine cn_callI hE X hP hD hS hA (k_X5_init l G cI cS cL ad mp r_0) ⟨aw_90, aw_89, aw_67, rfl, by decide +kernel⟩ aw_88 ⟨Nat.le_of_ble_eq_true rfl, Nat.le_of_ble_eq_true rfl⟩ [0] (cs := [[(r_0, .inr (3, [.null, .null, .null, .null, .null, .int 0]))]]) rfl (by decide) (fun x : List Nat × List Nat × List Nat × List Nat × List (List Nat) × List Nat => [[tcC (nth [r_0]) (nth x.1) (nth x.2.1) (nth x.2.2.1) (nth x.2.2.2.1) (nth x.2.2.2.2.2) false, stC (nth x.1) cI iS_beams iS_speeds iS_phases iS_springs iS_strikes iS_ways iS_kickSums iS_nearTicks iS_gives iS_settings 0 0 0 iS_pulls iS_leaders, stC (nth x.2.1) cI iS_beams iS_speeds iS_phases iS_springs iS_strikes iS_ways iS_kickSums iS_nearTicks iS_gives iS_settings 0 0 0 iS_pulls iS_leaders, stC (nth x.2.2.1) cI iS_beams iS_speeds iS_phases iS_springs iS_strikes iS_ways iS_kickSums iS_nearTicks iS_gives iS_settings 0 0 0 iS_pulls iS_leaders, hbC (nth x.2.2.2.1) cI cS 0 (nths x.2.2.2.2.1) (fun _ => iSt), txC (nth x.2.2.2.2.2) cI ad (fun _ => 0) 0 0 0 0 false 0].flatten]) (fun _ => fl1 _) (fun _ => rfl) hl.1 rfl (Nat.le_of_ble_eq_true rfl) dL_law_4 ⟨Nat.le_of_ble_eq_true rfl, Nat.le_of_ble_eq_true rfl⟩ (bs' := fun x : List Nat × List Nat × List Nat × List Nat × List (List Nat) × List Nat => [[tcC (nth [r_0]) (nth x.1) (nth x.2.1) (nth x.2.2.1) (nth x.2.2.2.1) (nth x.2.2.2.2.2) false, stC (nth x.1) cI iS_beams iS_speeds iS_phases iS_springs iS_strikes iS_ways iS_kickSums iS_nearTicks iS_gives iS_settings 0 0 0 iS_pulls iS_leaders, stC (nth x.2.1) cI iS_beams iS_speeds iS_phases iS_springs iS_strikes iS_ways iS_kickSums iS_nearTicks iS_gives iS_settings 0 0 0 iS_pulls iS_leaders, stC (nth x.2.2.1) cI iS_beams iS_speeds iS_phases iS_springs iS_strikes iS_ways iS_kickSums iS_nearTicks iS_gives iS_settings 0 0 0 iS_pulls iS_leaders, hbC (nth x.2.2.2.1) cI cS 0 (nths x.2.2.2.2.1) (fun _ => iSt), txC (nth x.2.2.2.2.2) cI ad (fun _ => 0) 0 0 0 0 false 0].flatten]) (fun _ => rfl) (fun x H locs hP hD hS => ?_)
  refine lv_astore_n (x := r_0) (lv' := [(1, .ref r_0), (0, .ref b)]) hx hb dL_law_7 rfl hl (by decide) rfl (fun ls hl => ?_)
  refine va_new (ci := 4) (fs := [.int 0, .null, .null, .null, .int 0, .null, .int 0, .null, .null, .null, .int 0, .int 0, .int 0, .int 0, .int 0]) (C := RX6) (T := TX6) (N := 15) hx hb hw in_X6 tyX6 tyX6_ok hown (hw _ aw_865) (hw _ aw_866) (hw _ aw_73) hK hP hD hS hA rfl (by decide) (Nat.le_of_ble_eq_true rfl) (Nat.le_of_ble_eq_true rfl) dL_law_8 (fun r_1 H hP hD hS => ?_)
  rw [← fl1, fl2] at hP hD
  refine lv_dup hx hb dL_law_11 rfl ?_
  refine cn_callI hE X hP hD hS hA (k_X6_init l G cI cS cL ad mp r_1) ⟨aw_869, aw_868, aw_73, rfl, by decide +kernel⟩ aw_867 ⟨Nat.le_of_ble_eq_true rfl, Nat.le_of_ble_eq_true rfl⟩ [1] (cs := [[(r_1, .inr (4, [.int 0, .null, .null, .null, .int 0, .null, .int 0, .null, .null, .null, .int 0, .int 0, .int 0, .int 0, .int 0]))]]) rfl (by decide) (fun y : List Nat => [[mdC (nth (r_1 :: y)) 0 false 0 0 0 false false 0, rwC (nth (r_1 :: y) 1) cI 129 iM_now, rwC (nth (r_1 :: y) 2) cI 129 iM_trial, rwC (nth (r_1 :: y) 3) cI 129 iM_shot, rwC (nth (r_1 :: y) 4) cI 774 iM_book, rwC (nth (r_1 :: y) 5) cI 8 iM_pulls, rwC (nth (r_1 :: y) 6) cI 8 iM_group, rwC (nth (r_1 :: y) 7) cI 60 iM_text].flatten]) (fun _ => fl1 _) (fun _ => rfl) hl.1 rfl (Nat.le_of_ble_eq_true rfl) dL_law_12 ⟨Nat.le_of_ble_eq_true rfl, Nat.le_of_ble_eq_true rfl⟩ (bs' := fun y : List Nat => [[tcC (nth [r_0]) (nth x.1) (nth x.2.1) (nth x.2.2.1) (nth x.2.2.2.1) (nth x.2.2.2.2.2) false, stC (nth x.1) cI iS_beams iS_speeds iS_phases iS_springs iS_strikes iS_ways iS_kickSums iS_nearTicks iS_gives iS_settings 0 0 0 iS_pulls iS_leaders, stC (nth x.2.1) cI iS_beams iS_speeds iS_phases iS_springs iS_strikes iS_ways iS_kickSums iS_nearTicks iS_gives iS_settings 0 0 0 iS_pulls iS_leaders, stC (nth x.2.2.1) cI iS_beams iS_speeds iS_phases iS_springs iS_strikes iS_ways iS_kickSums iS_nearTicks iS_gives iS_settings 0 0 0 iS_pulls iS_leaders, hbC (nth x.2.2.2.1) cI cS 0 (nths x.2.2.2.2.1) (fun _ => iSt), txC (nth x.2.2.2.2.2) cI ad (fun _ => 0) 0 0 0 0 false 0].flatten, [mdC (nth (r_1 :: y)) 0 false 0 0 0 false false 0, rwC (nth (r_1 :: y) 1) cI 129 iM_now, rwC (nth (r_1 :: y) 2) cI 129 iM_trial, rwC (nth (r_1 :: y) 3) cI 129 iM_shot, rwC (nth (r_1 :: y) 4) cI 774 iM_book, rwC (nth (r_1 :: y) 5) cI 8 iM_pulls, rwC (nth (r_1 :: y) 6) cI 8 iM_group, rwC (nth (r_1 :: y) 7) cI 60 iM_text].flatten]) (fun _ => rfl) (fun y H locs hP hD hS => ?_)
  refine lv_astore_n (x := r_1) (lv' := [(2, .ref r_1), (1, .ref r_0), (0, .ref b)]) hx hb dL_law_15 rfl hl (by decide) rfl (fun ls hl => ?_)
  refine lv_iconst (v := 1) hx hb dL_law_16 (by decide) ?_
  refine va_newa (atype := .long) (N' := 1) (a0 := (1, .inr (.inl (fun _ => 0)))) hx hb (hw _ aw_1236L) rfl hK hP hD hS hA (fun cA => rfl) (by decide) (by decide) (by decide) (Nat.le_of_ble_eq_true rfl) (Nat.le_of_ble_eq_true rfl) dL_law_17 (fun ao cA H hK1 hP hD hS => ?_)
  have e1 := (hK1.2 3 _ rfl).2
  have e2 := (hK.2 2 _ rfl).2
  have e3 : cA = cL := Option.some.inj (e1.symm.trans e2)
  subst e3
  refine lv_astore_n (x := ao) (lv' := [(3, .ref ao), (2, .ref r_1), (1, .ref r_0), (0, .ref b)]) hx hb dL_law_19 rfl hl (by decide) rfl (fun ls hl => ?_)
  refine lv_iconst (v := nI 0) hx hb dL_law_20 (by decide) ?_
  refine lv_istore (x := nI 0) (lv' := [(4, .int (nI 0)), (3, .ref ao), (2, .ref r_1), (1, .ref r_0), (0, .ref b)]) hx hb dL_law_21 hl (by decide) rfl (fun ls hl => ?_)
  rw [fl15] at hP hD
  refine law_loop (q := nth [r_0]) (qn := nth x.1) (qt := nth x.2.1) (qs := nth x.2.2.1) (qH := nth x.2.2.2.1) (qx := nth x.2.2.2.2.2) (q6 := nth (r_1 :: y)) (ao := ao) h0 Kx L 0 _ ls H locs _ _ (by omega) (by omega) (Nat.le_of_ble_eq_true rfl) (Nat.le_of_ble_eq_true rfl) hl ?_ hP hD hS
  exact ⟨false, iSt, iSt, iSt, 0, nths x.2.2.2.2.1, (fun _ => iSt), (fun _ => 0), 0, 0, 0, 0, false, 0, 0, 0, false, false, 0, iM_now, iM_trial, iM_shot, iM_book, iM_pulls, iM_group, iM_text, (fun _ => 0), rfl, Inv_born _ _ _ _ _⟩
theorem law_run (h0 : LX p l s m c G cI cS cL ad mp b L xs) (Kx : ∀ (ls : Array Slot) (H : Heap) (locs : List Loc) (cells slots : Nat), cells ≤ 601024 → slots ≤ 7293034 → va_S (fun q : Nat => s.heap.size ≤ q) s.heap H locs → W p l e room_1 s m #[Value.ref b] below meth c H locs cells slots Q (F0 m 1484 ls [])) : W p l e room_1 s m #[Value.ref b] below meth c s.heap [] 0 0 Q (entryFrame m ([Value.ref b] : List Value).toArray 9) := by
  rw [lg_entry_eq]
  exact law_run0 h0 Kx (lv_entry [Value.ref b] (Nat.le_of_ble_eq_true rfl))
end LOOP
