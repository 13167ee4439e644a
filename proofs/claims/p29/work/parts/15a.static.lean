/-! what stands in statics and is never written: the constants of Due, the switch's map, what a throw reads, the texts -/
def dDue : String := "LTandemClocks$Due;"
def nmD : List String := ["LETTER", "CLOCK", "SIGN", "BEAM", "FIRST_DIGIT", "MORE_DIGITS", "END"]
def FD : List (String × String × String × List Int32) := [("java/lang/Enum", "ordinal", "I", [0, 1, 2, 3, 4, 5, 6])]
def mapF : Nat → Value := fun j => .int (([1, 2, 3, 4, 5, 6, 0] : List Int32).getD j 0)
def strs : List (Nat × String) := [(42, "ticks are 1 to 200"), (60, "no such clock"), (63, "a kick is -500 to 500, but not 0"), (76, "no such beam"), (84, "the clock hangs on this beam already"), (105, "a speed is 10 to 60"), (110, "a give is 0 to 20"), (118, "no such setting"), (126, "the setting has no such value"), (131, "a character code is 33 to 126"), (137, "the buffer has 60 characters"), (156, "the buffer is not complete orders"), (183, "there is no snapshot"), (188, "there is no saved state"), (196, "what is 0 to 10"), (205, "no such two clocks"), (207, "what is 0 to 2"), (213, "what is 0 to 4"), (218, "what is 0 to 9")]
def SF (ad : Nat → Nat) (mp : Nat) (A : Nat → Prop) (U : State) (H : Heap) : Prop := va_En RX1 dDue nmD FD ad A U H ∧ va_Z RX0 "$SwitchMap$TandemClocks$Due" "[I" (.ref mp) A U H ∧ va_T .int mp 7 mapF A U H ∧ vx_Zq Bundle.tN "UNASSIGNED_STACK" Bundle.steD A U H ∧ vx_Zq Bundle.tN "SUPPRESSED_SENTINEL" Bundle.listD A U H ∧ ∀ q ∈ strs, ∃ a, vk_R RX5 q.1 q.2 a U
theorem SF.warm {ad : Nat → Nat} {mp : Nat} {A : Nat → Prop} {s U : State} {H : Heap} (hW : s.WarmedH U.vm) (h : SF ad mp A s H) : SF ad mp A U H :=
  ⟨h.1.moved hW.alike, h.2.1.moved hW.alike, h.2.2.1.moved hW.alike, h.2.2.2.1.moved hW.alike, h.2.2.2.2.1.moved hW.alike, fun q hq => by
    obtain ⟨a, ha⟩ := h.2.2.2.2.2 q hq
    exact ⟨a, ha.warm hW⟩⟩
theorem SF.same {ad : Nat → Nat} {mp : Nat} {A : Nat → Prop} {u U : State} {H : Heap} (hv : U.vm = u.vm) (h : SF ad mp A u H) : SF ad mp A U H := by
  have hA : u.vm.Alike U.vm := by rw [hv]; exact Vm.Alike.refl _
  exact ⟨h.1.moved hA, h.2.1.moved hA, h.2.2.1.moved hA, h.2.2.2.1.moved hA, h.2.2.2.2.1.moved hA, fun q hq => by
    obtain ⟨a, ha⟩ := h.2.2.2.2.2 q hq
    exact ⟨a, vk_R.same hv ha⟩⟩
theorem SF.kept {ad : Nat → Nat} {mp : Nat} {A : Nat → Prop} {U : State} {H H1 : Heap} (h : SF ad mp A U H) (hq : ∀ a : Nat, a < H.size → ¬ A a → H1[a]? = H[a]?) : SF ad mp A U H1 := ⟨h.1.kept hq, h.2.1.kept hq, h.2.2.1.kept hq, h.2.2.2.1.kept hq, h.2.2.2.2.1.kept hq, h.2.2.2.2.2⟩
theorem SF.narrow {ad : Nat → Nat} {mp : Nat} {A B : Nat → Prop} {U : State} {H : Heap} (h : SF ad mp A U H) (hAB : ∀ q, B q → A q) : SF ad mp B U H := ⟨h.1.narrow hAB, h.2.1.narrow hAB, h.2.2.1.narrow hAB, h.2.2.2.1.narrow hAB, h.2.2.2.2.1.narrow hAB, h.2.2.2.2.2⟩
def ctPcE (G : va_G) (tys : List (ClassId × FieldType)) (ad : Nat → Nat) (mp : Nat) (av : List Value) (ws : va_W) (sz : Nat) : Array Value → State → Prop := va_Pc av (fun U => U.heap.size = sz ∧ va_P G classes ws U.heap ∧ va_K G classes tys U ∧ NW U ∧ va_D (fun _ => True) ws ∧ SF ad mp (va_A ws sz) U U.heap)
theorem ctPcE_blind {G : va_G} {tys : List (ClassId × FieldType)} {ad : Nat → Nat} {mp : Nat} {av : List Value} {ws : va_W} {sz : Nat} : FrameBlind (ctPcE G tys ad mp av ws sz) := by
  intro a U g mk q
  obtain ⟨q0, q1, qP, qK, qN, qD, qE⟩ := q
  exact ⟨q0, q1, qP, va_K.moved (u := U) (U := U.calling g mk a) (Vm.Alike.refl U.vm) qK, NW.same (u := U) (U := U.calling g mk a) rfl qN, qD, SF.same (u := U) (U := U.calling g mk a) rfl qE⟩
/-- a contract where such statics are read -/
def CtE (l : Launch) (G : va_G) (tys : List (ClassId × FieldType)) (ad : Nat → Nat) (mp : Nat) (y : MethodName) (cc : ByteArray) (mx : Nat) (ret : Option FieldType) (fr lo mc ms : Nat) (av : List Value) (ws : va_W) {α : Type} (F : α) (rf : α → Option Value) (wf : α → va_W) : Prop :=
  ∀ sz : Nat, Met l y (Cond.code y cc mx ret :: AW) ({ frames := fr, cells := mc, slots := ms, locals := lo }) (ctPcE G tys ad mp av ws sz) (ctQ G (rf F) (wf F) (va_A ws sz)) mc ms (va_A ws sz)
section CTE
variable {p : Program} {l : Launch} {e : Env} {R : Room} {s : State} {m : MethodId} {args : Array Value} {below : List Frame} {meth : Method} {c : Code} {H : Heap} {locs : List Loc} {cells slots : Nat} {Q : State → Prop}
theorem CtE.of {G : va_G} {tys : List (ClassId × FieldType)} {ad : Nat → Nat} {mp : Nat} {y : MethodName} {cc : ByteArray} {mx : Nat} {ret : Option FieldType} {fr lo mc ms : Nat} {av : List Value} {ws : va_W} {α : Type} {F : α} {rf : α → Option Value} {wf : α → va_W}
    (hy : plainFor y = true) (hsl : (lg_sl av).length ≤ mx)
    (body : ∀ (p : Program) (e : Env) (s : State) (m : MethodId) (args : Array Value) (below : List Frame) (meth : Method) (c : Code) (A : Nat → Prop) (ls : Array Slot), p.tables.exec = Jvm.exec → c.code = cc → meth.sig.returnType = ret → c.maxLocals = mx → (∀ w ∈ AW, w.before args s = true) → s.vm.findClass y.cls = some m.cls → meth.locks = false → meth.name = y.name →
      va_K G classes tys s → NW s → SF ad mp A s s.heap → va_P G classes ws s.heap → va_D A ws → va_S A s.heap s.heap [] → (∀ q : Nat, s.heap.size ≤ q → A q) → lv_has ls mx (lv_args 0 av) →
      W p l e ({ frames := fr, cells := mc, slots := ms, locals := lo } : Room) s m args below meth c s.heap [] 0 0 (MQ below (ctQ G (rf F) (wf F) A) args s mc ms A) (F0 m 0 ls [])) : CtE l G tys ad mp y cc mx ret fr lo mc ms av ws F rf wf := by
  intro sz
  refine va_MetF (cc := cc) (maxL := mx) (ret := ret) hy rfl ?_
  intro p e s m args below meth c s₁ B hml hv
  obtain ⟨rfl, hsz, hP, hK, hN, hD0, hE⟩ := hv
  subst hsz
  have hts := atoms_spec (ws := Cond.code y cc mx ret :: AW) B.pre
  rw [lg_entry_eq]
  exact body p e s m _ below meth c _ _ B.exec B.bytes B.returns hml (fun w hw => hts w (List.mem_cons_of_mem _ hw)) (findClass_of_methodNamed B.named) B.notSynchronized (name_of_methodNamed B.named B.method).1 hK hN hE hP hD0.self va_S.rf (fun q h => Or.inr h) (lv_entry av hsl)
section CALLSE
variable {G : va_G} {tys : List (ClassId × FieldType)} {ad : Nat → Nat} {mp : Nat} {y : MethodName} {cc cc' : ByteArray} {mx nL : Nat} {ret : Option FieldType} {fr lo mc ms n pc index : Nat} {As rest st0 st1 : List Value} {b : Addr} {α : Type} {F : α} {rf : α → Option Value} {wf : α → va_W} {bs cs cs' : List va_W} {A0 : Nat → Prop} {ls : Array Slot} {own host : String}
theorem cte_callV (hE : SF ad mp A0 s s.heap) (X : Cx p s m args c cc nL own G tys) (hP : va_P G classes bs.flatten H) (hD : va_D A0 bs.flatten) (hS : va_S A0 s.heap H locs) (hA : ∀ q, s.heap.size ≤ q → A0 q)
    (C : CtE l G tys ad mp y cc' mx ret fr lo mc ms (.ref b :: As) cs.flatten F rf wf) (cp : CpV y cc' mx ret n) (hl : Cond.methodLink own index y ∈ AW) (hR : fr + 1 ≤ R.frames ∧ 8 + (mx + 11) + lo ≤ R.locals)
    (ks : List Nat) (hc : ks.map (fun k => bs[k]?) = cs.map some) (hn : ks.Nodup) (hwf : wf F = cs'.flatten) (hlen : cs'.length = ks.length) (ci : Nat) {q : vw_C} {q0 : Nat} {fs : List Value} (hci : classes[ci]? = some q) (hq : q.1 = y.cls) (he : cs.flatten[q0]? = some (b, .inr (ci, fs)))
    (hnn : As.length = n) (hsize : ls.size = nL) (hstack : st0 = As.reverse ++ .ref b :: rest) (hW : (rest.map fun v => v.category).sum ≤ 8) (hdg : decode cc pc = .ok (.invokevirtual index, 3)) (hf : cells + mc ≤ R.cells ∧ slots + ms ≤ R.slots) (hst : (rf F).toList ++ rest = st1) {bs' : List va_W} (hbs : bput bs ks cs' = bs')
    (kk : ∀ (H1 : Heap) (locs1 : List Loc), va_P G classes bs'.flatten H1 → va_D A0 bs'.flatten → va_S A0 s.heap H1 locs1 → W p l e R s m args below meth c H1 locs1 (cells + mc) (slots + ms) Q (F0 m (pc + 3) ls st1)) : W p l e R s m args below meth c H locs cells slots Q (F0 m pc ls st0) := by
  obtain ⟨hx, hb, hml, hown, hw, hK, hN⟩ := X
  obtain ⟨c1, c2, c3, c4, c5⟩ := cp
  have hPc := bl_sub hP hc
  have hDc := bl_subD hD hn hc
  have hFc := bl_free hD hS hA hc
  have hE1 := (hE.kept (fun a h1 h2 => hS.2.1 a h1 h2)).narrow hFc
  subst hbs
  refine ct_go (va_runV (As := As) (rest := rest) (b := b) (C := q.1) ⟨hx, hb, hml, hown, hw⟩ (C H.size) ⟨callB_of n hw (goodIn_aw c1) rfl rfl rfl (hw _ c4) (hw _ hl) c5 hR, hw _ c2, by rw [hq]; exact hw _ c3⟩ ⟨ctPcE_blind, va_recv hK hPc hci he, fun U hU hW2 => ⟨rfl, by rw [hU], by rw [hU]; exact hPc, va_K.moved hW2.alike hK, hN.warm hW2, hDc.weaken (fun _ _ _ _ => trivial), by rw [hU]; exact hE1.warm hW2⟩⟩ rfl hnn hsize hstack (lv_room hW) hdg hf) hS (fun q _ h => hFc q h) hFc hst (fun H1 locs1 hP1 hD1 hk1 hS1 => ?_)
  rw [hwf] at hP1 hD1
  obtain ⟨hP2, hD2⟩ := bl_join hP hD hn hc (hlen.trans (bl_len hc)) hk1 hFc hP1 hD1
  exact kk H1 locs1 hP2 hD2 hS1
/-- a constant of Due by its static -/
theorem nv_gets (hE : SF ad mp A0 s s.heap) (X : Cx p s m args c cc nL own G tys) (hS : va_S A0 s.heap H locs) (i : Nat) (hi : i < 7) {nm : String} (hnm : nmD.getD i "" = nm) (hl : Cond.fieldLink own index RX1 nm dDue ∈ AW) (hdg : decode cc pc = .ok (.getstatic index, 3)) (kk : W p l e R s m args below meth c H locs cells slots Q (F0 m (pc + 3) ls (.ref (ad i) :: rest))) : W p l e R s m args below meth c H locs cells slots Q (F0 m pc ls rest) := by
  obtain ⟨hx, hb, hml, hown, hw, hK, hN⟩ := X
  subst hnm
  exact va_gets hx hb (hE.1.1 i hi).1 hS hown (hw _ hl) (fun _ h9 => h9) hdg kk
/-- the map of the switch -/
theorem nv_getm (hE : SF ad mp A0 s s.heap) (X : Cx p s m args c cc nL own G tys) (hS : va_S A0 s.heap H locs) (hl : Cond.fieldLink own index RX0 "$SwitchMap$TandemClocks$Due" "[I" ∈ AW) (hdg : decode cc pc = .ok (.getstatic index, 3)) (kk : W p l e R s m args below meth c H locs cells slots Q (F0 m (pc + 3) ls (.ref mp :: rest))) : W p l e R s m args below meth c H locs cells slots Q (F0 m pc ls rest) := by
  obtain ⟨hx, hb, hml, hown, hw, hK, hN⟩ := X
  exact va_gets hx hb hE.2.1 hS hown (hw _ hl) (fun _ h9 => h9) hdg kk
theorem nv_mald (hE : SF ad mp A0 s s.heap) (X : Cx p s m args c cc nL own G tys) (hS : va_S A0 s.heap H locs) (i : Nat) (hi : i < 7) {v : Value} (hv : mapF i = v) (hdg : decode cc pc = .ok (.iaload, 1)) (kk : W p l e R s m args below meth c H locs cells slots Q (F0 m (pc + 1) ls (v :: rest))) : W p l e R s m args below meth c H locs cells slots Q (F0 m pc ls (.int (nI i) :: .ref mp :: rest)) := by
  obtain ⟨hx, hb, hml, hown, hw, hK, hN⟩ := X
  exact va_ti hx hb hE.2.2.1 hS (vp_in_nI hi (by decide)) (by rw [nI_clamp (by omega)]; exact hv) hdg kk
theorem SF.inj (hE : SF ad mp A0 s s.heap) {i j : Nat} (hi : i < 7) (hj : j < 7) : ad i = ad j ↔ i = j := ⟨hE.1.2 i j hi hj, fun h => by rw [h]⟩
theorem ev_acmp_eq (hE : SF ad mp A0 s s.heap) (X : Cx p s m args c cc nL own G tys) {off : Int} (i j tgt : Nat) (hi : i < 7) (hj : j < 7) (hdg : decode cc pc = .ok (.if_acmp .eq off, 3)) (ht : (pc : Int) + off = (tgt : Int))
    (kt : i = j → W p l e R s m args below meth c H locs cells slots Q (F0 m tgt ls rest)) (kf : ¬ i = j → W p l e R s m args below meth c H locs cells slots Q (F0 m (pc + 3) ls rest)) : W p l e R s m args below meth c H locs cells slots Q (F0 m pc ls (.ref (ad j) :: .ref (ad i) :: rest)) :=
  lv_acmp_eq (rx := some (ad i)) (ry := some (ad j)) X.1 X.2.1 hdg ht (fun h => kt ((SF.inj hE hi hj).mp (Option.some.inj h))) (fun h => kf (fun h2 => h (by rw [h2])))
theorem ev_acmp_ne (hE : SF ad mp A0 s s.heap) (X : Cx p s m args c cc nL own G tys) {off : Int} (i j tgt : Nat) (hi : i < 7) (hj : j < 7) (hdg : decode cc pc = .ok (.if_acmp .ne off, 3)) (ht : (pc : Int) + off = (tgt : Int))
    (kt : ¬ i = j → W p l e R s m args below meth c H locs cells slots Q (F0 m tgt ls rest)) (kf : i = j → W p l e R s m args below meth c H locs cells slots Q (F0 m (pc + 3) ls rest)) : W p l e R s m args below meth c H locs cells slots Q (F0 m pc ls (.ref (ad j) :: .ref (ad i) :: rest)) :=
  lv_acmp_ne (rx := some (ad i)) (ry := some (ad j)) X.1 X.2.1 hdg ht (fun h => kt (fun h2 => h (by rw [h2]))) (fun h => kf ((SF.inj hE hi hj).mp (Option.some.inj h)))
end CALLSE
theorem aw_init_enum : Cond.initialized yJx29ce0_ordinal_8abf5.cls ∈ AW := aw_40
theorem aw_same : Cond.sameMethod RX1 "java/lang/Enum" "ordinal" "()I" ∈ AW := aw_mem (i := 781) (by decide +kernel) (by decide +kernel)
theorem FD_at : ∀ d, d < 7 → (([0, 1, 2, 3, 4, 5, 6] : List Int32).getD d 0) = nI d := by decide
set_option maxHeartbeats 4000000 in
theorem k_ordinal (l : Launch) (G : va_G) (cI cS cL : ClassId) (ad : Nat → Nat) (mp : Nat) (d : Nat) (hd : d < 7) : CtE l G (tyl cI cS cL) ad mp yJx29ce0_ordinal_8abf5 cJx29ce0_ordinal_8abf5 1 (some .int) 0 0 0 0 [.ref (ad d)] ([] : List va_W).flatten () (fun _ => some (.int (nI d))) (fun _ => ([] : List va_W).flatten) := by
  refine CtE.of (by decide +kernel) (Nat.le_of_ble_eq_true rfl) ?_
  intro p e s m args below meth c A ls hx hb hr hml hw hown hlocks hin hK hN hE hP hD hS hA hl
  have hl : lv_has ls 1 [(0, .ref (ad d))] := hl
  refine lv_aload_n hx hb dJx29ce0_ordinal_8abf5_0 rfl (lv_at hl 0 rfl) ?_
  refine va_getE (q := ("java/lang/Enum", "ordinal", "I", [0, 1, 2, 3, 4, 5, 6])) hx hb hE.1 hd hS hown (by decide) (hw _ aw_884) (fun _ h9 => h9) dJx29ce0_ordinal_8abf5_1 ?_
  exact W.iret (v := (([0, 1, 2, 3, 4, 5, 6] : List Int32).getD d 0)) hx hb hr (ct_end (F := ()) (u := ()) (rf := fun _ => some (.int (nI d))) (wf := fun _ => ([] : List va_W).flatten) rfl (by rw [FD_at d hd]) hP hD hS) hS.2.2 dJx29ce0_ordinal_8abf5_4
section CALLSE2
variable {G : va_G} {cI cS cL : ClassId} {ad : Nat → Nat} {mp : Nat} {cc : ByteArray} {nL pc : Nat} {rest : List Value} {bs : List va_W} {A0 : Nat → Prop} {ls : Array Slot}
theorem nv_ordinal (hE : SF ad mp A0 s s.heap) (X : Cx p s m args c cc nL RX3 G (tyl cI cS cL)) (hP : va_P G classes bs.flatten H) (hD : va_D A0 bs.flatten) (hS : va_S A0 s.heap H locs) (hA : ∀ q, s.heap.size ≤ q → A0 q) (d : Nat) (hd : d < 7) (hR : 1 ≤ R.frames ∧ 20 ≤ R.locals) (hsize : ls.size = nL) (hW : (rest.map fun v => v.category).sum ≤ 8) (hdg : decode cc pc = .ok (.invokevirtual 58, 3)) (hf : cells ≤ R.cells ∧ slots ≤ R.slots)
    (kk : ∀ (H1 : Heap) (locs1 : List Loc), va_P G classes bs.flatten H1 → va_D A0 bs.flatten → va_S A0 s.heap H1 locs1 → W p l e R s m args below meth c H1 locs1 cells slots Q (F0 m (pc + 3) ls (.int (nI d) :: rest))) : W p l e R s m args below meth c H locs cells slots Q (F0 m pc ls (.ref (ad d) :: rest)) := by
  obtain ⟨hx, hb, hml, hown, hw, hK, hN⟩ := X
  have hn : ([] : List Nat).Nodup := List.nodup_nil
  have hc : ([] : List Nat).map (fun k => bs[k]?) = ([] : List va_W).map some := rfl
  have hPc := bl_sub hP hc
  have hDc := bl_subD hD hn hc
  have hFc := bl_free hD hS hA hc
  have hE1 := (hE.kept (fun a h1 h2 => hS.2.1 a h1 h2)).narrow hFc
  have hGo : GoodIn AW (va_wsU RX3 58 RX1 "java/lang/Enum" ⟨RX1, "ordinal", "()I"⟩ yJx29ce0_ordinal_8abf5 (Cond.code yJx29ce0_ordinal_8abf5 cJx29ce0_ordinal_8abf5 1 (some .int) :: AW)) := by
    intro w hw9
    have key : ∀ w ∈ AW, w ∈ AW ∧ ((w.onTables && w.keeps) = true ∨ ∃ ty, w = .arrayClass ty) := fun w h => ⟨h, good_of_word (List.mem_filter.mp h).2⟩
    refine key w ?_
    rcases List.mem_append.mp hw9 with h | h
    · simp only [List.mem_cons, List.not_mem_nil, or_false] at h
      rcases h with rfl | rfl | rfl | rfl | rfl
      · exact aw_780
      · exact aw_same
      · exact aw_783
      · exact aw_784
      · exact aw_init_enum
    · rcases List.mem_cons.mp h with rfl | h
      · exact aw_785
      · exact h
  refine ct_go (st1 := .int (nI d) :: rest) (va_runU (As := []) (rest := rest) (b := ad d) (C := RX1) (owner := "java/lang/Enum") (x := ⟨RX1, "ordinal", "()I"⟩) ⟨hx, hb, hml, hown, hw⟩ (k_ordinal l G cI cS cL ad mp d hd H.size) (va_cwU 0 hw hGo rfl rfl rfl rfl (by decide +kernel) ⟨hR.1, hR.2⟩) ⟨ctPcE_blind, va_recvE hE.1 hd hS, fun U hU hW2 => ⟨rfl, by rw [hU], by rw [hU]; exact hPc, va_K.moved hW2.alike hK, hN.warm hW2, hDc.weaken (fun _ _ _ _ => trivial), by rw [hU]; exact hE1.warm hW2⟩⟩ rfl rfl hsize rfl (lv_room hW) hdg hf) hS (fun q _ h => hFc q h) hFc rfl (fun H1 locs1 hP1 hD1 hk1 hS1 => ?_)
  obtain ⟨hP2, hD2⟩ := bl_join (cs' := []) hP hD hn hc rfl hk1 hFc hP1 hD1
  have e : bput bs [] [] = bs := by
    unfold bput
    apply List.ext_getElem?
    intro i
    rw [List.getElem?_mapIdx]
    cases bs[i]? <;> rfl
  rw [e] at hP2 hD2
  exact kk H1 locs1 hP2 hD2 hS1
end CALLSE2
end CTE
