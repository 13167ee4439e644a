/-! the law: its calls, and what its loop holds -/
/-- what the tables say of the law's method with handlers -/
def CpL (y : MethodName) (cc : ByteArray) (mx : Nat) (hh : List (Nat × Nat × Nat × Nat)) (n : Nat) : Prop := Cond.codeWith y cc mx (some .int) hh ∈ AW ∧ Cond.static y ∈ AW ∧ Cond.initialized y.cls ∈ AW ∧ (y.cls ≠ "java/lang/invoke/MethodHandle" ∧ y.cls ≠ "java/lang/invoke/VarHandle" ∧ (parseMethodDescriptor y.desc).map (fun d => d.parameters.length) = some n)
theorem cw_pass : Cond.codeWith yL_pass cL_pass 4 (some .int) [(0, 9, 12, 13)] ∈ AW := aw_mem (i := 533) (by decide +kernel) (by decide +kernel)
theorem cpL_pass : CpL yL_pass cL_pass 4 [(0, 9, 12, 13)] 3 := ⟨cw_pass, aw_532, aw_66, by decide +kernel⟩
theorem cw_kick : Cond.codeWith yL_kick cL_kick 5 (some .int) [(0, 10, 13, 19), (0, 10, 17, 13)] ∈ AW := aw_mem (i := 621) (by decide +kernel) (by decide +kernel)
theorem cpL_kick : CpL yL_kick cL_kick 5 [(0, 10, 13, 19), (0, 10, 17, 13)] 4 := ⟨cw_kick, aw_620, aw_66, by decide +kernel⟩
theorem cw_move : Cond.codeWith yL_move cL_move 5 (some .int) [(0, 10, 13, 19), (0, 10, 17, 24)] ∈ AW := aw_mem (i := 654) (by decide +kernel) (by decide +kernel)
theorem cpL_move : CpL yL_move cL_move 5 [(0, 10, 13, 19), (0, 10, 17, 24)] 4 := ⟨cw_move, aw_653, aw_66, by decide +kernel⟩
theorem cw_wind : Cond.codeWith yL_wind cL_wind 4 (some .int) [(0, 9, 12, 19)] ∈ AW := aw_mem (i := 687) (by decide +kernel) (by decide +kernel)
theorem cpL_wind : CpL yL_wind cL_wind 4 [(0, 9, 12, 19)] 3 := ⟨cw_wind, aw_686, aw_66, by decide +kernel⟩
theorem cw_speed : Cond.codeWith yL_speed cL_speed 5 (some .int) [(0, 10, 13, 19), (0, 10, 17, 13)] ∈ AW := aw_mem (i := 698) (by decide +kernel) (by decide +kernel)
theorem cpL_speed : CpL yL_speed cL_speed 5 [(0, 10, 13, 19), (0, 10, 17, 13)] 4 := ⟨cw_speed, aw_697, aw_66, by decide +kernel⟩
theorem cw_give : Cond.codeWith yL_give cL_give 5 (some .int) [(0, 10, 13, 19), (0, 10, 17, 13)] ∈ AW := aw_mem (i := 706) (by decide +kernel) (by decide +kernel)
theorem cpL_give : CpL yL_give cL_give 5 [(0, 10, 13, 19), (0, 10, 17, 13)] 4 := ⟨cw_give, aw_705, aw_66, by decide +kernel⟩
theorem cw_set : Cond.codeWith yL_set cL_set 5 (some .int) [(0, 10, 13, 19), (0, 10, 17, 13)] ∈ AW := aw_mem (i := 714) (by decide +kernel) (by decide +kernel)
theorem cpL_set : CpL yL_set cL_set 5 [(0, 10, 13, 19), (0, 10, 17, 13)] 4 := ⟨cw_set, aw_713, aw_66, by decide +kernel⟩
theorem cw_append : Cond.codeWith yL_append cL_append 4 (some .int) [(0, 9, 12, 13), (0, 9, 15, 24)] ∈ AW := aw_mem (i := 732) (by decide +kernel) (by decide +kernel)
theorem cpL_append : CpL yL_append cL_append 4 [(0, 9, 12, 13), (0, 9, 15, 24)] 3 := ⟨cw_append, aw_731, aw_66, by decide +kernel⟩
theorem cw_obey : Cond.codeWith yL_obey cL_obey 3 (some .int) [(0, 8, 11, 13)] ∈ AW := aw_mem (i := 750) (by decide +kernel) (by decide +kernel)
theorem cpL_obey : CpL yL_obey cL_obey 3 [(0, 8, 11, 13)] 2 := ⟨cw_obey, aw_749, aw_66, by decide +kernel⟩
theorem cw_goBack : Cond.codeWith yL_goBack cL_goBack 3 (some .int) [(0, 8, 11, 24)] ∈ AW := aw_mem (i := 773) (by decide +kernel) (by decide +kernel)
theorem cpL_goBack : CpL yL_goBack cL_goBack 3 [(0, 8, 11, 24)] 2 := ⟨cw_goBack, aw_772, aw_66, by decide +kernel⟩
theorem cw_undo : Cond.codeWith yL_undo cL_undo 3 (some .int) [(0, 8, 11, 24)] ∈ AW := aw_mem (i := 781) (by decide +kernel) (by decide +kernel)
theorem cpL_undo : CpL yL_undo cL_undo 3 [(0, 8, 11, 24)] 2 := ⟨cw_undo, aw_780, aw_66, by decide +kernel⟩
theorem cw_clock : Cond.codeWith yL_clock cL_clock 5 (some .int) [(0, 10, 13, 19), (0, 10, 17, 13)] ∈ AW := aw_mem (i := 798) (by decide +kernel) (by decide +kernel)
theorem cpL_clock : CpL yL_clock cL_clock 5 [(0, 10, 13, 19), (0, 10, 17, 13)] 4 := ⟨cw_clock, aw_797, aw_66, by decide +kernel⟩
theorem cw_pair : Cond.codeWith yL_pair cL_pair 6 (some .int) [(0, 12, 15, 19), (0, 12, 19, 13)] ∈ AW := aw_mem (i := 806) (by decide +kernel) (by decide +kernel)
theorem cpL_pair : CpL yL_pair cL_pair 6 [(0, 12, 15, 19), (0, 12, 19, 13)] 5 := ⟨cw_pair, aw_805, aw_66, by decide +kernel⟩
theorem cw_beam : Cond.codeWith yL_beam cL_beam 5 (some .int) [(0, 10, 13, 19), (0, 10, 17, 13)] ∈ AW := aw_mem (i := 818) (by decide +kernel) (by decide +kernel)
theorem cpL_beam : CpL yL_beam cL_beam 5 [(0, 10, 13, 19), (0, 10, 17, 13)] 4 := ⟨cw_beam, aw_817, aw_66, by decide +kernel⟩
theorem cw_count : Cond.codeWith yL_count cL_count 4 (some .int) [(0, 9, 12, 13)] ∈ AW := aw_mem (i := 826) (by decide +kernel) (by decide +kernel)
theorem cpL_count : CpL yL_count cL_count 4 [(0, 9, 12, 13)] 3 := ⟨cw_count, aw_825, aw_66, by decide +kernel⟩
theorem cw_setting : Cond.codeWith yL_setting cL_setting 4 (some .int) [(0, 9, 12, 19)] ∈ AW := aw_mem (i := 834) (by decide +kernel) (by decide +kernel)
theorem cpL_setting : CpL yL_setting cL_setting 4 [(0, 9, 12, 19)] 3 := ⟨cw_setting, aw_833, aw_66, by decide +kernel⟩
theorem cw_ifPassed : Cond.codeWith yL_ifPassed cL_ifPassed 6 (some .int) [(0, 12, 15, 19), (0, 12, 19, 13)] ∈ AW := aw_mem (i := 841) (by decide +kernel) (by decide +kernel)
theorem cpL_ifPassed : CpL yL_ifPassed cL_ifPassed 6 [(0, 12, 15, 19), (0, 12, 19, 13)] 5 := ⟨cw_ifPassed, aw_840, aw_66, by decide +kernel⟩
theorem cw_lockedIn : Cond.codeWith yL_lockedIn cL_lockedIn 5 (some .int) [(0, 10, 13, 19)] ∈ AW := aw_mem (i := 848) (by decide +kernel) (by decide +kernel)
theorem cpL_lockedIn : CpL yL_lockedIn cL_lockedIn 5 [(0, 10, 13, 19)] 4 := ⟨cw_lockedIn, aw_847, aw_66, by decide +kernel⟩
theorem cw_bestGive : Cond.codeWith yL_bestGive cL_bestGive 4 (some .int) [(0, 9, 12, 19)] ∈ AW := aw_mem (i := 855) (by decide +kernel) (by decide +kernel)
theorem cpL_bestGive : CpL yL_bestGive cL_bestGive 4 [(0, 9, 12, 19)] 3 := ⟨cw_bestGive, aw_854, aw_66, by decide +kernel⟩
section LAWC
variable {p : Program} {l : Launch} {e : Env} {R : Room} {s : State} {m : MethodId} {args : Array Value} {below : List Frame} {meth : Method} {c : Code} {H : Heap} {locs : List Loc} {cells slots : Nat} {Q : State → Prop}
section CALLSL
variable {G : va_G} {tys : List (ClassId × FieldType)} {ad : Nat → Nat} {mp : Nat} {y : MethodName} {cc cc' : ByteArray} {mx nL : Nat} {hh : List (Nat × Nat × Nat × Nat)} {fr lo mc ms n pc index : Nat} {As rest st0 st1 : List Value} {α : Type} {F : α} {rf : α → Option Value} {wf : α → va_W} {bs cs cs' : List va_W} {A0 : Nat → Prop} {ls : Array Slot} {own : String}
theorem cl_callS (hE : SF ad mp A0 s s.heap) (hC : NC s) (X : Cx p s m args c cc nL own G tys) (hP : va_P G classes bs.flatten H) (hD : va_D A0 bs.flatten) (hS : va_S A0 s.heap H locs) (hA : ∀ q, s.heap.size ≤ q → A0 q)
    (C : CtL l G tys ad mp y cc' mx hh fr lo mc ms As cs.flatten F rf wf) (cp : CpL y cc' mx hh n) (hl : Cond.methodLink own index y ∈ AW) (hR : fr + 1 ≤ R.frames ∧ 8 + (mx + 11) + lo ≤ R.locals)
    (ks : List Nat) (hc : ks.map (fun k => bs[k]?) = cs.map some) (hn : ks.Nodup) (hwf : wf F = cs'.flatten) (hlen : cs'.length = ks.length)
    (hnn : As.length = n) (hsize : ls.size = nL) (hstack : st0 = As.reverse ++ rest) (hW : (rest.map fun v => v.category).sum ≤ 8) (hdg : decode cc pc = .ok (.invokestatic index, 3)) (hf : cells + mc ≤ R.cells ∧ slots + ms ≤ R.slots) (hst : (rf F).toList ++ rest = st1) {bs' : List va_W} (hbs : bput bs ks cs' = bs')
    (kk : ∀ (H1 : Heap) (locs1 : List Loc), va_P G classes bs'.flatten H1 → va_D A0 bs'.flatten → va_S A0 s.heap H1 locs1 → W p l e R s m args below meth c H1 locs1 (cells + mc) (slots + ms) Q (F0 m (pc + 3) ls st1)) : W p l e R s m args below meth c H locs cells slots Q (F0 m pc ls st0) := by
  obtain ⟨hx, hb, hml, hown, hw, hK, hN⟩ := X
  obtain ⟨c1, c2, c4, c5⟩ := cp
  have hPc := bl_sub hP hc
  have hDc := bl_subD hD hn hc
  have hFc := bl_free hD hS hA hc
  have hE1 := (hE.kept (fun a h1 h2 => hS.2.1 a h1 h2)).narrow hFc
  subst hbs
  have hG : GoodIn AW (va_wsS own index y (Cond.codeWith y cc' mx (some .int) hh :: AW)) := by
    have key : ∀ w ∈ AW, w ∈ AW ∧ ((w.onTables && w.keeps) = true ∨ ∃ ty, w = .arrayClass ty) := fun w h => ⟨h, good_of_word (List.mem_filter.mp h).2⟩
    intro w hw9
    refine key w ?_
    unfold va_wsS at hw9
    rcases List.mem_append.mp hw9 with h | h
    · simp only [List.mem_cons, List.not_mem_nil, or_false] at h
      rcases h with rfl | rfl | rfl
      · exact hl
      · exact c2
      · exact c4
    · rcases List.mem_cons.mp h with rfl | h
      · exact c1
      · exact h
  refine ct_go (vx_runSW (As := As) (rest := rest) ⟨hx, hb, hml, hown, hw⟩ (C H.size) (vx_cwSW n hw hG rfl rfl rfl c5 hR) ⟨ctPcL_blind, fun U hU hW2 => ⟨rfl, by rw [hU], by rw [hU]; exact hPc, va_K.moved hW2.alike hK, hN.warm hW2, hDc.weaken (fun _ _ _ _ => trivial), by rw [hU]; exact hE1.warm hW2, hC.moved hW2.alike⟩⟩ rfl hnn hsize hstack (lv_room hW) hdg hf) hS (fun q _ h => hFc q h) hFc hst (fun H1 locs1 hP1 hD1 hk1 hS1 => ?_)
  rw [hwf] at hP1 hD1
  obtain ⟨hP2, hD2⟩ := bl_join hP hD hn hc (hlen.trans (bl_len hc)) hk1 hFc hP1 hD1
  exact kk H1 locs1 hP2 hD2 hS1
end CALLSL
/-- what stays as it is in the law -/
def LX (p : Program) (l : Launch) (s : State) (m : MethodId) (c : Code) (G : va_G) (cI cS cL : ClassId) (ad : Nat → Nat) (mp b L : Nat) (xs : Nat → Int32) : Prop :=
  Cx p s m #[Value.ref b] c cL_law 9 RL G (tyl cI cS cL) ∧ NC s ∧ SF ad mp (fun q : Nat => s.heap.size ≤ q) s s.heap ∧ va_X b L xs s s.heap ∧ b < s.heap.size ∧ l.stackTraces = false ∧ L ≤ 2048
section LAWX
variable {G : va_G} {cI cS cL : ClassId} {ad : Nat → Nat} {mp b L : Nat} {xs : Nat → Int32} {pc i : Nat} {ls : Array Slot} {rest : List Value}
/-- an int of the script -/
theorem ld_arg (h0 : LX p l s m c G cI cS cL ad mp b L xs) (hS : va_S (fun q : Nat => s.heap.size ≤ q) s.heap H locs) (g : lv_has ls 9 [(4, .int (nI i)), (0, .ref b)]) (j : Nat) (hij : i + j < L) {v : Int32} (ev : xs (i + j) = v) {k : Int} (hk : Int32.ofInt k = nI j) (d0 : decode cL_law pc = .ok (.aload_n 0, 1)) (d1 : decode cL_law (pc + 1) = .ok (.iload 4, 2)) (d3 : decode cL_law (pc + 3) = .ok (.iconst k, 1)) (d4 : decode cL_law (pc + 4) = .ok (.iadd, 1)) (d5 : decode cL_law (pc + 5) = .ok (.iaload, 1)) (kk : W p l e R s m #[Value.ref b] below meth c H locs cells slots Q (F0 m (pc + 6) ls (.int v :: rest))) : W p l e R s m #[Value.ref b] below meth c H locs cells slots Q (F0 m pc ls rest) := by
  obtain ⟨⟨hx, hb, hml, hown, hw, hK, hN⟩, hC, hE, hX, hbl, hlt, hL⟩ := h0
  refine lv_aload_n hx hb d0 rfl (lv_at g 1 rfl) ?_
  refine lv_iload hx hb d1 (lv_at g 0 rfl) ?_
  refine lv_iconst (v := nI j) hx hb d3 hk ?_
  refine lv_iadd hx hb d4 ?_
  rw [nI_add]
  refine va_sld hx hb hX hbl (Nat.not_le.mpr hbl) hS (vp_in_nI hij (by omega)) d5 ?_
  rw [nI_clamp (by omega), ev]
  exact kk
theorem lg_self (x : Int64) : lg_cmp x x = 0 := by
  unfold lg_cmp
  rw [if_neg (Int64.lt_irrefl), if_pos rfl]
/-- the end of a compared call -/
theorem op_end (h0 : LX p l s m c G cI cS cL ad mp b L xs) {q6 : Nat → Nat} {ao : Nat} {refusal : Int32} {isS : Bool} {states length at_ : Nat} {good runs : Bool} {did : Int32} {b0 b1 b2 b3 b4 b5 b7 b8 b9 b10 b11 b12 b13 : va_W} {out : Nat → Int64}
    (hP : va_P G classes [b0, b1, b2, b3, b4, b5, mdC q6 refusal isS states length at_ good runs did, b7, b8, b9, b10, b11, b12, b13, lrC ao cL out].flatten H) (hD : va_D (fun q : Nat => s.heap.size ≤ q) [b0, b1, b2, b3, b4, b5, mdC q6 refusal isS states length at_ good runs did, b7, b8, b9, b10, b11, b12, b13, lrC ao cL out].flatten) (hS : va_S (fun q : Nat => s.heap.size ≤ q) s.heap H locs)
    {bb k : Int32} (g : lv_has ls 9 [(6, .int bb), (5, .int k), (3, .ref ao), (2, .ref (q6 0))]) (hk : refusal = k) (ho : k = 0 → out 0 = bb.toInt64) (hf : cells ≤ R.cells ∧ slots ≤ R.slots) (hR : 1 ≤ R.frames ∧ 20 ≤ R.locals)
    (d0 : decode cL_law pc = .ok (.aload_n 2, 1)) (d1 : decode cL_law (pc + 1) = .ok (.invokevirtual 86, 3)) (d4 : decode cL_law (pc + 4) = .ok (.iload 5, 2)) (d6 : decode cL_law (pc + 6) = .ok (.if_icmp .eq 5, 3)) (d11 : decode cL_law (pc + 11) = .ok (.iload 5, 2)) (d13 : decode cL_law (pc + 13) = .ok (.ifCond .ne 15, 3)) (d16 : decode cL_law (pc + 16) = .ok (.aload_n 3, 1)) (d17 : decode cL_law (pc + 17) = .ok (.iconst 0, 1)) (d18 : decode cL_law (pc + 18) = .ok (.laload, 1)) (d19 : decode cL_law (pc + 19) = .ok (.iload 6, 2)) (d21 : decode cL_law (pc + 21) = .ok (.i2l, 1)) (d22 : decode cL_law (pc + 22) = .ok (.lcmp, 1)) (d23 : decode cL_law (pc + 23) = .ok (.ifCond .eq 5, 3)) {off : Int} (d28 : decode cL_law (pc + 28) = .ok (.goto off, 3)) (ht : ((pc + 28 : Nat) : Int) + off = ((1478 : Nat) : Int))
    (kk : ∀ (H : Heap) (locs : List Loc), va_P G classes [b0, b1, b2, b3, b4, b5, mdC q6 refusal isS states length at_ good runs did, b7, b8, b9, b10, b11, b12, b13, lrC ao cL out].flatten H → va_D (fun q : Nat => s.heap.size ≤ q) [b0, b1, b2, b3, b4, b5, mdC q6 refusal isS states length at_ good runs did, b7, b8, b9, b10, b11, b12, b13, lrC ao cL out].flatten → va_S (fun q : Nat => s.heap.size ≤ q) s.heap H locs → W p l e R s m #[Value.ref b] below meth c H locs cells slots Q (F0 m 1478 ls [])) : W p l e R s m #[Value.ref b] below meth c H locs cells slots Q (F0 m pc ls []) := by
  obtain ⟨X, hC, hE, hX, hbl, hlt, hL⟩ := h0
  have hx := X.1
  have hb := X.2.1
  have hA : ∀ q : Nat, s.heap.size ≤ q → (fun q : Nat => s.heap.size ≤ q) q := fun _ h => h
  subst hk
  refine lv_aload_n hx hb d0 rfl (lv_at g 3 rfl) ?_
  refine ct_callV (As := []) (rest := []) X hP hD hS hA (k_X6_thrown l G cI cS cL q6 refusal isS states length at_ good runs did) ⟨aw_920, aw_918, aw_919, aw_73, by decide +kernel⟩ aw_917 hR [6] (cs := [mdC q6 refusal isS states length at_ good runs did]) rfl (by decide) (cs' := [mdC q6 refusal isS states length at_ good runs did]) rfl rfl 4 rfl rfl (q0 := 0) rfl rfl g.1 rfl (Nat.le_of_ble_eq_true rfl) d1 hf rfl (bs' := [b0, b1, b2, b3, b4, b5, mdC q6 refusal isS states length at_ good runs did, b7, b8, b9, b10, b11, b12, b13, lrC ao cL out]) rfl (fun H locs hP hD hS => ?_)
  refine lv_iload hx hb d4 (lv_at g 1 rfl) ?_
  refine lv_icmp_eq (tgt := pc + 11) hx hb d6 (by omega) (fun _ => ?_) (fun q => absurd rfl q)
  refine lv_iload hx hb d11 (lv_at g 1 rfl) ?_
  refine lv_if_ne (tgt := pc + 28) hx hb d13 (by omega) (fun _ => ?_) (fun h => ?_)
  · exact lv_goto (tgt := 1478) hx hb d28 ht (kk H locs hP hD hS)
  · refine lv_aload_n hx hb d16 rfl (lv_at g 2 rfl) ?_
    refine lv_iconst (v := 0) hx hb d17 (by decide) ?_
    have hP14 := bl_sub hP (ks := [14]) (cs := [lrC ao cL out]) rfl
    refine va_lald hx hb X.2.2.2.2.2.1 hP14 0 2 rfl rfl (vp_in_iff.mpr (by decide)) d18 ?_
    refine lv_iload hx hb d19 (lv_at g 0 rfl) ?_
    refine lv_i2l hx hb d21 rfl ?_
    refine W.lcmp hx hb d22 ?_
    have e0 : out (0 : Int32).toNatClampNeg = bb.toInt64 := ho h
    rw [e0, lg_self]
    refine lv_if_eq (tgt := pc + 28) hx hb d23 (by omega) (fun _ => ?_) (fun q => absurd rfl q)
    exact lv_goto (tgt := 1478) hx hb d28 ht (kk H locs hP hD hS)
end LAWX
end LAWC
/-- what class and reference hold of each other, between two calls -/
def Inv (Z S : StT) (sn : Bool) (size : Nat) (cc : Nat → StT) (now shot book : Nat → Int32) (codes tx : Nat → Int32) (len : Nat) (clk : Int32) : Prop :=
  Rel Z now ∧ RngT Z ∧ (sn = true → Rel S shot) ∧ RngT S ∧ Hs size cc book ∧ len ≤ 60 ∧ Same codes tx len ∧ Chs tx len ∧ vp_in clk 8
/-- the world between two calls -/
def Wok (q qn qt qs qH qx q6 : Nat → Nat) (ao : Nat) (cI cS cL : ClassId) (ad : Nat → Nat) (bs : List va_W) : Prop :=
  ∃ (sn : Bool) (Z T S : StT) (size : Nat) (qa : Nat → Nat → Nat) (cc : Nat → StT) (codes : Nat → Int32) (len due : Nat) (let_ clk : Int32) (bak : Bool) (num : Int32) (refusal : Int32) (at_ : Nat) (good runs : Bool) (did : Int32) (now trial shot book rp gr tx : Nat → Int32) (out : Nat → Int64),
    bs = [tcC q qn qt qs qH qx sn, stT qn cI Z, stT qt cI T, stT qs cI S, hbC qH cI cS size qa cc, txC qx cI ad codes len due let_ clk bak num, mdC q6 refusal sn size len at_ good runs did, rwC (q6 1) cI 129 now, rwC (q6 2) cI 129 trial, rwC (q6 3) cI 129 shot, rwC (q6 4) cI 774 book, rwC (q6 5) cI 8 rp, rwC (q6 6) cI 8 gr, rwC (q6 7) cI 60 tx, lrC ao cL out] ∧ Inv Z S sn size cc now shot book codes tx len clk
