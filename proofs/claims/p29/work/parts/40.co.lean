/-! contracts with one of many ends: for objects that are told by what can be told of them -/
def ctO (G : va_G) {α : Type} (P : α → Prop) (rf : α → Option Value) (wf : α → va_W) (A : Nat → Prop) : Array Value → State → Outcome → State → Prop := fun _ st oc t => (∃ u, P u ∧ oc = .returned (rf u) ∧ va_P G classes (wf u) t.heap ∧ va_D A (wf u)) ∧ va_F A st t
def CtO (l : Launch) (G : va_G) (tys : List (ClassId × FieldType)) (ad : Nat → Nat) (mp : Nat) (y : MethodName) (cw : Cond) (fr lo mc ms : Nat) (av : List Value) (ws : va_W) {α : Type} (P : α → Prop) (rf : α → Option Value) (wf : α → va_W) : Prop :=
  ∀ sz : Nat, Met l y (cw :: AW) ({ frames := fr, cells := mc, slots := ms, locals := lo }) (ctPcL G tys ad mp av ws sz) (ctO G P rf wf (va_A ws sz)) mc ms (va_A ws sz)
theorem ctPcL_E {G : va_G} {tys : List (ClassId × FieldType)} {ad : Nat → Nat} {mp : Nat} {av : List Value} {ws : va_W} {sz : Nat} {a : Array Value} {U : State} (h : ctPcL G tys ad mp av ws sz a U) : ctPcE G tys ad mp av ws sz a U := ⟨h.1, h.2.1, h.2.2.1, h.2.2.2.1, h.2.2.2.2.1, h.2.2.2.2.2.1, h.2.2.2.2.2.2.1⟩
theorem ctPcL_C {G : va_G} {tys : List (ClassId × FieldType)} {ad : Nat → Nat} {mp : Nat} {av : List Value} {ws : va_W} {sz : Nat} {a : Array Value} {U : State} (h : ctPcL G tys ad mp av ws sz a U) : ctPc G tys av ws sz a U := ⟨h.1, h.2.1, h.2.2.1, h.2.2.2.1, h.2.2.2.2.1, h.2.2.2.2.2.1⟩
theorem vaA_sub {bs cs : List va_W} {ks : List Nat} {sz : Nat} (hc : ks.map (fun k => bs[k]?) = cs.map some) : ∀ q, va_A cs.flatten sz q → va_A bs.flatten sz q := by
  intro q h
  rcases h with ⟨k, e, h⟩ | h
  · obtain ⟨b, hb, hqb⟩ := List.mem_flatten.mp (List.mem_of_getElem? h)
    obtain ⟨j, hj⟩ := List.getElem?_of_mem hb
    obtain ⟨k2, -, hk2⟩ := bl_at hc hj
    obtain ⟨i, hi⟩ := List.getElem?_of_mem (List.mem_flatten.mpr ⟨b, List.mem_of_getElem? hk2, hqb⟩)
    exact Or.inl ⟨i, e, hi⟩
  · exact Or.inr h
/-- a contract over some blocks, told over the whole -/
theorem CtO.lift {l : Launch} {G : va_G} {tys : List (ClassId × FieldType)} {ad : Nat → Nat} {mp : Nat} {y : MethodName} {cw : Cond} {fr lo mc ms : Nat} {av : List Value} {bs cs cs' : List va_W} {v : Option Value} {Pc0 : Nat → Array Value → State → Prop} {α : Type} {P : α → Prop} {rf : α → Option Value} {wf : α → va_W}
    (h : ∀ sz : Nat, Met l y (cw :: AW) ({ frames := fr, cells := mc, slots := ms, locals := lo }) (Pc0 sz) (ctQ G v cs'.flatten (va_A cs.flatten sz)) mc ms (va_A cs.flatten sz)) (hw : ∀ sz a U, ctPcL G tys ad mp av cs.flatten sz a U → Pc0 sz a U)
    (ks : List Nat) (hc : ks.map (fun k => bs[k]?) = cs.map some) (hn : ks.Nodup) (hlen : cs'.length = ks.length) (u : α) (hu : P u) (hr : rf u = v) (hwf : wf u = (bput bs ks cs').flatten) : CtO l G tys ad mp y cw fr lo mc ms av bs.flatten P rf wf := by
  intro sz p e ha hc0 hk s m args below hf happ h1 h2
  obtain ⟨q0, q1, qP, qK, qN, qD, qE, qC⟩ := h1
  have hFc : ∀ q, va_A cs.flatten sz q → va_A bs.flatten sz q := vaA_sub hc
  have pre : ctPcL G tys ad mp av cs.flatten sz args s := ⟨q0, q1, bl_sub qP hc, qK, qN, bl_subD qD hn hc, qE.narrow hFc, qC⟩
  obtain ⟨n, o, r1, r2, r3, ⟨⟨r4, r5, r6⟩, r7⟩, L, r8, r9⟩ := h sz p e ha hc0 hk s m args below hf happ (hw sz _ _ pre) h2
  subst q1
  obtain ⟨j1, j2⟩ := bl_join (A0 := va_A bs.flatten s.heap.size) qP qD.self hn hc (hlen.trans (bl_len hc)) (fun q g1 g2 => r7.2 q g1 g2) hFc r5 r6
  exact ⟨n, o, r1, r2, r3, ⟨⟨u, hu, by rw [hr]; exact r4, by rw [hwf]; exact j1, by rw [hwf]; exact j2⟩, r7.1, fun q g1 g2 => r7.2 q g1 (fun z => g2 (hFc q z))⟩, L, r8, fun q hq => hFc _ (r9 q hq)⟩
/-- the same contract, its end told otherwise -/
theorem CtO.conv {l : Launch} {G : va_G} {tys : List (ClassId × FieldType)} {ad : Nat → Nat} {mp : Nat} {y : MethodName} {cw : Cond} {fr lo mc ms : Nat} {av : List Value} {ws ws2 : va_W} {α β : Type} {P : α → Prop} {rf : α → Option Value} {wf : α → va_W} {P2 : β → Prop} {rf2 : β → Option Value} {wf2 : β → va_W} (h : CtO l G tys ad mp y cw fr lo mc ms av ws P rf wf) (he : ws = ws2) (f : ∀ u, P u → ∃ w, P2 w ∧ rf2 w = rf u ∧ wf2 w = wf u) : CtO l G tys ad mp y cw fr lo mc ms av ws2 P2 rf2 wf2 := by
  subst he
  intro sz p e ha hc0 hk s m args below hf happ h1 h2
  obtain ⟨n, o, r1, r2, r3, ⟨⟨u, ru, r4, r5, r6⟩, r7⟩, r8⟩ := h sz p e ha hc0 hk s m args below hf happ h1 h2
  obtain ⟨w, w1, w2, w3⟩ := f u ru
  exact ⟨n, o, r1, r2, r3, ⟨⟨w, w1, by rw [w2]; exact r4, by rw [w3]; exact r5, by rw [w3]; exact r6⟩, r7⟩, r8⟩
section COO
variable {p : Program} {l : Launch} {e : Env} {R : Room} {s : State} {m : MethodId} {args : Array Value} {below : List Frame} {meth : Method} {c : Code} {H : Heap} {locs : List Loc} {cells slots : Nat} {Q : State → Prop}
theorem CtO.of {G : va_G} {tys : List (ClassId × FieldType)} {ad : Nat → Nat} {mp : Nat} {y : MethodName} {cc : ByteArray} {mx : Nat} {ret : Option FieldType} {fr lo mc ms : Nat} {av : List Value} {ws : va_W} {α : Type} {P : α → Prop} {rf : α → Option Value} {wf : α → va_W}
    (hy : plainFor y = true) (hsl : (lg_sl av).length ≤ mx)
    (body : ∀ (p : Program) (e : Env) (s : State) (m : MethodId) (args : Array Value) (below : List Frame) (meth : Method) (c : Code) (A : Nat → Prop) (ls : Array Slot), p.tables.exec = Jvm.exec → c.code = cc → meth.sig.returnType = ret → c.maxLocals = mx → (∀ w ∈ AW, w.before args s = true) → s.vm.findClass y.cls = some m.cls → meth.locks = false →
      va_K G classes tys s → NW s → NC s → SF ad mp A s s.heap → va_P G classes ws s.heap → va_D A ws → va_S A s.heap s.heap [] → (∀ q : Nat, s.heap.size ≤ q → A q) → lv_has ls mx (lv_args 0 av) →
      W p l e ({ frames := fr, cells := mc, slots := ms, locals := lo } : Room) s m args below meth c s.heap [] 0 0 (MQ below (ctO G P rf wf A) args s mc ms A) (F0 m 0 ls [])) : CtO l G tys ad mp y (Cond.code y cc mx ret) fr lo mc ms av ws P rf wf := by
  intro sz
  refine va_MetF (cc := cc) (maxL := mx) (ret := ret) hy rfl ?_
  intro p e s m args below meth c s₁ B hml hv
  obtain ⟨rfl, hsz, hP, hK, hN, hD0, hE, hC⟩ := hv
  subst hsz
  have hts := atoms_spec (ws := Cond.code y cc mx ret :: AW) B.pre
  rw [lg_entry_eq]
  exact body p e s m _ below meth c _ _ B.exec B.bytes B.returns hml (fun w hw => hts w (List.mem_cons_of_mem _ hw)) (findClass_of_methodNamed B.named) B.notSynchronized hK hN hC hE hP hD0.self va_S.rf (fun q h => Or.inr h) (lv_entry av hsl)
theorem ct_endO {G : va_G} {α : Type} {P : α → Prop} {rf : α → Option Value} {wf : α → va_W} {A : Nat → Prop} {a : Array Value} {v : Option Value} (u : α) (hu : P u) (hv : v = rf u) (hP : va_P G classes (wf u) H) (hD : va_D A (wf u)) (hS : va_S A s.heap H locs) : ∀ t : State, t.heap = H → s.WarmedH t.vm → ctO G P rf wf A a s (.returned v) t := by
  intro t ht _
  exact ⟨⟨u, hu, by rw [hv], by rw [ht]; exact hP, hD⟩, hS.F ht⟩
theorem ct_goO {G : va_G} {α : Type} {P : α → Prop} {rf : α → Option Value} {wf : α → va_W} {A0 A1 : Nat → Prop} {pc mc ms : Nat} {ls : Array Slot} {st0 rest : List Value} {st1 : α → List Value} {a : Array Value} {free : Addr → Prop} {H0 : Heap} (hr : va_Run p l e R s m args below meth c H locs cells slots mc ms (F0 m pc ls st0) rest (ctO G P rf wf A1 a) free) (hS : va_S A0 H0 H locs) (hA : ∀ q, q < H.size → A1 q → A0 q) (hf : ∀ q, free q → A0 q) (hst : ∀ u, (rf u).toList ++ rest = st1 u)
    (kk : ∀ u, P u → ∀ (H1 : Heap) (locs1 : List Loc), va_P G classes (wf u) H1 → va_D A1 (wf u) → (∀ q : Nat, q < H.size → ¬ A1 q → H1[q]? = H[q]?) → va_S A0 H0 H1 locs1 → W p l e R s m args below meth c H1 locs1 (cells + mc) (slots + ms) Q (F0 m (pc + 3) ls (st1 u))) : W p l e R s m args below meth c H locs cells slots Q (F0 m pc ls st0) := by
  intro T hT X
  obtain ⟨v, st₀, t, T', L, h0, X', hL, e1, e2, ⟨⟨u, hu, hv, hp, hb⟩, hz, hk⟩, st⟩ := hr T hT X
  cases hv
  rw [h0] at hz hk
  rw [hst u] at st
  obtain ⟨t2, a1, b1⟩ := kk u hu T'.heap (locs ++ L) (by rw [e1]; exact hp) hb (fun q h1 h2 => by rw [e1]; exact hk q h1 h2)
    ⟨Nat.le_trans hS.1 (by rw [e1]; exact hz), fun q h1 h2 => by rw [e1, hk q (Nat.lt_of_lt_of_le h1 hS.1) (fun z => h2 (hA q (Nat.lt_of_lt_of_le h1 hS.1) z))]; exact hS.2.1 q h1 h2, fun q hq => by
      rcases List.mem_append.mp hq with h | h
      · exact hS.2.2 q h
      · exact hf _ (hL q h)⟩ T' rfl X'
  exact ⟨t2, st t2 a1, b1⟩
/-- what the tables say of a static method with handlers, and without -/
def CpH (y : MethodName) (cc : ByteArray) (mx : Nat) (ret : Option FieldType) (hh : List (Nat × Nat × Nat × Nat)) (n : Nat) : Prop := Cond.codeWith y cc mx ret hh ∈ AW ∧ Cond.static y ∈ AW ∧ Cond.initialized y.cls ∈ AW ∧ (y.cls ≠ "java/lang/invoke/MethodHandle" ∧ y.cls ≠ "java/lang/invoke/VarHandle" ∧ (parseMethodDescriptor y.desc).map (fun d => d.parameters.length) = some n)
section CALLSO
variable {G : va_G} {tys : List (ClassId × FieldType)} {ad : Nat → Nat} {mp : Nat} {y : MethodName} {cc cc' : ByteArray} {mx nL : Nat} {ret : Option FieldType} {hh : List (Nat × Nat × Nat × Nat)} {fr lo mc ms n pc index : Nat} {As rest st0 : List Value} {b : Addr} {α : Type} {P : α → Prop} {rf : α → Option Value} {wf : α → va_W} {st1 : α → List Value} {bs cs : List va_W} {A0 : Nat → Prop} {ls : Array Slot} {own : String}
/-- a call of a static method with handlers -/
theorem co_callH (hE : SF ad mp A0 s s.heap) (hC : NC s) (X : Cx p s m args c cc nL own G tys) (hP : va_P G classes bs.flatten H) (hD : va_D A0 bs.flatten) (hS : va_S A0 s.heap H locs) (hA : ∀ q, s.heap.size ≤ q → A0 q)
    (C : CtO l G tys ad mp y (Cond.codeWith y cc' mx ret hh) fr lo mc ms As cs.flatten P rf wf) (cp : CpH y cc' mx ret hh n) (hl : Cond.methodLink own index y ∈ AW) (hR : fr + 1 ≤ R.frames ∧ 8 + (mx + 11) + lo ≤ R.locals)
    (ks : List Nat) (hc : ks.map (fun k => bs[k]?) = cs.map some) (hn : ks.Nodup) (cs' : α → List va_W) (hwf : ∀ u, wf u = (cs' u).flatten) (hlen : ∀ u, (cs' u).length = ks.length)
    (hnn : As.length = n) (hsize : ls.size = nL) (hstack : st0 = As.reverse ++ rest) (hW : (rest.map fun v => v.category).sum ≤ 8) (hdg : decode cc pc = .ok (.invokestatic index, 3)) (hf : cells + mc ≤ R.cells ∧ slots + ms ≤ R.slots) (hst : ∀ u, (rf u).toList ++ rest = st1 u) (bs' : α → List va_W) (hbs : ∀ u, bput bs ks (cs' u) = bs' u)
    (kk : ∀ u, P u → ∀ (H1 : Heap) (locs1 : List Loc), va_P G classes (bs' u).flatten H1 → va_D A0 (bs' u).flatten → va_S A0 s.heap H1 locs1 → W p l e R s m args below meth c H1 locs1 (cells + mc) (slots + ms) Q (F0 m (pc + 3) ls (st1 u))) : W p l e R s m args below meth c H locs cells slots Q (F0 m pc ls st0) := by
  obtain ⟨hx, hb, hml, hown, hw, hK, hN⟩ := X
  obtain ⟨c1, c2, c4, c5⟩ := cp
  have hPc := bl_sub hP hc
  have hDc := bl_subD hD hn hc
  have hFc := bl_free hD hS hA hc
  have hE1 := (hE.kept (fun a h1 h2 => hS.2.1 a h1 h2)).narrow hFc
  have hG : GoodIn AW (va_wsS own index y (Cond.codeWith y cc' mx ret hh :: AW)) := by
    have key : ∀ w ∈ AW, w ∈ AW ∧ ((w.onTables && w.keeps) = true ∨ ∃ ty, w = .arrayClass ty) := fun w h => ⟨h, good_of_word (List.mem_filter.mp h).2⟩
    intro w hw9
    refine key w ?_
    unfold va_wsS at hw9
    rcases List.mem_append.mp hw9 with h | h
    · simp only [List.mem_cons, List.not_mem_nil, or_false] at h
      rcases h with rfl | rfl | rfl
      · exact hl
      · exact c2
      · exact c4
    · rcases List.mem_cons.mp h with rfl | h
      · exact c1
      · exact h
  refine ct_goO (vx_runSW (As := As) (rest := rest) ⟨hx, hb, hml, hown, hw⟩ (C H.size) (vx_cwSW n hw hG rfl rfl rfl c5 hR) ⟨ctPcL_blind, fun U hU hW2 => ⟨rfl, by rw [hU], by rw [hU]; exact hPc, va_K.moved hW2.alike hK, hN.warm hW2, hDc.weaken (fun _ _ _ _ => trivial), by rw [hU]; exact hE1.warm hW2, hC.moved hW2.alike⟩⟩ rfl hnn hsize hstack (lv_room hW) hdg hf) hS (fun q _ h => hFc q h) hFc hst (fun u hu H1 locs1 hP1 hD1 hk1 hS1 => ?_)
  rw [hwf] at hP1 hD1
  obtain ⟨hP2, hD2⟩ := bl_join hP hD hn hc ((hlen u).trans (bl_len hc)) hk1 hFc hP1 hD1
  rw [hbs] at hP2 hD2
  exact kk u hu H1 locs1 hP2 hD2 hS1
/-- a call of a static method without -/
theorem co_callS (hE : SF ad mp A0 s s.heap) (hC : NC s) (X : Cx p s m args c cc nL own G tys) (hP : va_P G classes bs.flatten H) (hD : va_D A0 bs.flatten) (hS : va_S A0 s.heap H locs) (hA : ∀ q, s.heap.size ≤ q → A0 q)
    (C : CtO l G tys ad mp y (Cond.code y cc' mx ret) fr lo mc ms As cs.flatten P rf wf) (cp : CpS y cc' mx ret n) (hl : Cond.methodLink own index y ∈ AW) (hR : fr + 1 ≤ R.frames ∧ 8 + (mx + 11) + lo ≤ R.locals)
    (ks : List Nat) (hc : ks.map (fun k => bs[k]?) = cs.map some) (hn : ks.Nodup) (cs' : α → List va_W) (hwf : ∀ u, wf u = (cs' u).flatten) (hlen : ∀ u, (cs' u).length = ks.length)
    (hnn : As.length = n) (hsize : ls.size = nL) (hstack : st0 = As.reverse ++ rest) (hW : (rest.map fun v => v.category).sum ≤ 8) (hdg : decode cc pc = .ok (.invokestatic index, 3)) (hf : cells + mc ≤ R.cells ∧ slots + ms ≤ R.slots) (hst : ∀ u, (rf u).toList ++ rest = st1 u) (bs' : α → List va_W) (hbs : ∀ u, bput bs ks (cs' u) = bs' u)
    (kk : ∀ u, P u → ∀ (H1 : Heap) (locs1 : List Loc), va_P G classes (bs' u).flatten H1 → va_D A0 (bs' u).flatten → va_S A0 s.heap H1 locs1 → W p l e R s m args below meth c H1 locs1 (cells + mc) (slots + ms) Q (F0 m (pc + 3) ls (st1 u))) : W p l e R s m args below meth c H locs cells slots Q (F0 m pc ls st0) := by
  obtain ⟨hx, hb, hml, hown, hw, hK, hN⟩ := X
  obtain ⟨c1, c2, c4, c5⟩ := cp
  have hPc := bl_sub hP hc
  have hDc := bl_subD hD hn hc
  have hFc := bl_free hD hS hA hc
  have hE1 := (hE.kept (fun a h1 h2 => hS.2.1 a h1 h2)).narrow hFc
  refine ct_goO (va_runS (As := As) (rest := rest) ⟨hx, hb, hml, hown, hw⟩ (C H.size) ⟨callB_of n hw (goodIn_aw c1) rfl rfl rfl (hw _ c4) (hw _ hl) c5 hR, hw _ c2⟩ ⟨ctPcL_blind, fun U hU hW2 => ⟨rfl, by rw [hU], by rw [hU]; exact hPc, va_K.moved hW2.alike hK, hN.warm hW2, hDc.weaken (fun _ _ _ _ => trivial), by rw [hU]; exact hE1.warm hW2, hC.moved hW2.alike⟩⟩ rfl hnn hsize hstack (lv_room hW) hdg hf) hS (fun q _ h => hFc q h) hFc hst (fun u hu H1 locs1 hP1 hD1 hk1 hS1 => ?_)
  rw [hwf] at hP1 hD1
  obtain ⟨hP2, hD2⟩ := bl_join hP hD hn hc ((hlen u).trans (bl_len hc)) hk1 hFc hP1 hD1
  rw [hbs] at hP2 hD2
  exact kk u hu H1 locs1 hP2 hD2 hS1
/-- a call of a method of an object -/
theorem co_callV (hE : SF ad mp A0 s s.heap) (hC : NC s) (X : Cx p s m args c cc nL own G tys) (hP : va_P G classes bs.flatten H) (hD : va_D A0 bs.flatten) (hS : va_S A0 s.heap H locs) (hA : ∀ q, s.heap.size ≤ q → A0 q)
    (C : CtO l G tys ad mp y (Cond.code y cc' mx ret) fr lo mc ms (.ref b :: As) cs.flatten P rf wf) (cp : CpV y cc' mx ret n) (hl : Cond.methodLink own index y ∈ AW) (hR : fr + 1 ≤ R.frames ∧ 8 + (mx + 11) + lo ≤ R.locals)
    (ks : List Nat) (hc : ks.map (fun k => bs[k]?) = cs.map some) (hn : ks.Nodup) (cs' : α → List va_W) (hwf : ∀ u, wf u = (cs' u).flatten) (hlen : ∀ u, (cs' u).length = ks.length) (ci : Nat) {q : vw_C} {q0 : Nat} {fs : List Value} (hci : classes[ci]? = some q) (hq : q.1 = y.cls) (he : cs.flatten[q0]? = some (b, .inr (ci, fs)))
    (hnn : As.length = n) (hsize : ls.size = nL) (hstack : st0 = As.reverse ++ .ref b :: rest) (hW : (rest.map fun v => v.category).sum ≤ 8) (hdg : decode cc pc = .ok (.invokevirtual index, 3)) (hf : cells + mc ≤ R.cells ∧ slots + ms ≤ R.slots) (hst : ∀ u, (rf u).toList ++ rest = st1 u) (bs' : α → List va_W) (hbs : ∀ u, bput bs ks (cs' u) = bs' u)
    (kk : ∀ u, P u → ∀ (H1 : Heap) (locs1 : List Loc), va_P G classes (bs' u).flatten H1 → va_D A0 (bs' u).flatten → va_S A0 s.heap H1 locs1 → W p l e R s m args below meth c H1 locs1 (cells + mc) (slots + ms) Q (F0 m (pc + 3) ls (st1 u))) : W p l e R s m args below meth c H locs cells slots Q (F0 m pc ls st0) := by
  obtain ⟨hx, hb, hml, hown, hw, hK, hN⟩ := X
  obtain ⟨c1, c2, c3, c4, c5⟩ := cp
  have hPc := bl_sub hP hc
  have hDc := bl_subD hD hn hc
  have hFc := bl_free hD hS hA hc
  have hE1 := (hE.kept (fun a h1 h2 => hS.2.1 a h1 h2)).narrow hFc
  refine ct_goO (va_runV (As := As) (rest := rest) (b := b) (C := q.1) ⟨hx, hb, hml, hown, hw⟩ (C H.size) ⟨callB_of n hw (goodIn_aw c1) rfl rfl rfl (hw _ c4) (hw _ hl) c5 hR, hw _ c2, by rw [hq]; exact hw _ c3⟩ ⟨ctPcL_blind, va_recv hK hPc hci he, fun U hU hW2 => ⟨rfl, by rw [hU], by rw [hU]; exact hPc, va_K.moved hW2.alike hK, hN.warm hW2, hDc.weaken (fun _ _ _ _ => trivial), by rw [hU]; exact hE1.warm hW2, hC.moved hW2.alike⟩⟩ rfl hnn hsize hstack (lv_room hW) hdg hf) hS (fun q _ h => hFc q h) hFc hst (fun u hu H1 locs1 hP1 hD1 hk1 hS1 => ?_)
  rw [hwf] at hP1 hD1
  obtain ⟨hP2, hD2⟩ := bl_join hP hD hn hc ((hlen u).trans (bl_len hc)) hk1 hFc hP1 hD1
  rw [hbs] at hP2 hD2
  exact kk u hu H1 locs1 hP2 hD2 hS1
end CALLSO
end COO
