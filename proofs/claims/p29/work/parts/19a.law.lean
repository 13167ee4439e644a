/-! the law's own methods with handlers -/
def lrC (a : Nat) (cL : ClassId) (f : Nat → Int64) : va_W := [(a, .inl (cL, 1, .inr (.inl f)))]
def ncs : List (String × String) := [("java/lang/IllegalArgumentException", "java/lang/IndexOutOfBoundsException"), ("java/lang/IllegalStateException", "java/lang/IndexOutOfBoundsException"), ("java/lang/IllegalStateException", "java/lang/IllegalArgumentException"), ("java/lang/IllegalArgumentException", "java/lang/IllegalStateException"), ("java/lang/IndexOutOfBoundsException", "java/lang/IllegalArgumentException"), ("java/lang/IndexOutOfBoundsException", "java/lang/IllegalStateException")]
def NC (U : State) : Prop := ∀ q ∈ ncs, va_Nc q.1 q.2 U
theorem NC.moved {u U : State} (hvm : u.vm.Alike U.vm) (h : NC u) : NC U := fun q hq => (h q hq).moved hvm
def ctPcL (G : va_G) (tys : List (ClassId × FieldType)) (ad : Nat → Nat) (mp : Nat) (av : List Value) (ws : va_W) (sz : Nat) : Array Value → State → Prop := va_Pc av (fun U => U.heap.size = sz ∧ va_P G classes ws U.heap ∧ va_K G classes tys U ∧ NW U ∧ va_D (fun _ => True) ws ∧ SF ad mp (va_A ws sz) U U.heap ∧ NC U)
theorem ctPcL_blind {G : va_G} {tys : List (ClassId × FieldType)} {ad : Nat → Nat} {mp : Nat} {av : List Value} {ws : va_W} {sz : Nat} : FrameBlind (ctPcL G tys ad mp av ws sz) := by
  intro a U g mk q
  obtain ⟨q0, q1, qP, qK, qN, qD, qE, qC⟩ := q
  exact ⟨q0, q1, qP, va_K.moved (u := U) (U := U.calling g mk a) (Vm.Alike.refl U.vm) qK, NW.same (u := U) (U := U.calling g mk a) rfl qN, qD, SF.same (u := U) (U := U.calling g mk a) rfl qE, NC.moved (u := U) (U := U.calling g mk a) (Vm.Alike.refl U.vm) qC⟩
def CtL (l : Launch) (G : va_G) (tys : List (ClassId × FieldType)) (ad : Nat → Nat) (mp : Nat) (y : MethodName) (cc : ByteArray) (mx : Nat) (hh : List (Nat × Nat × Nat × Nat)) (fr lo mc ms : Nat) (av : List Value) (ws : va_W) {α : Type} (F : α) (rf : α → Option Value) (wf : α → va_W) : Prop :=
  ∀ sz : Nat, Met l y (Cond.codeWith y cc mx (some .long) hh :: AW) ({ frames := fr, cells := mc, slots := ms, locals := lo }) (ctPcL G tys ad mp av ws sz) (ctQ G (rf F) (wf F) (va_A ws sz)) mc ms (va_A ws sz)
section CTL
variable {p : Program} {l : Launch} {e : Env} {R : Room} {s : State} {m : MethodId} {args : Array Value} {below : List Frame} {meth : Method} {c : Code} {H : Heap} {locs : List Loc} {cells slots : Nat} {Q : State → Prop}
theorem CtL.of {G : va_G} {tys : List (ClassId × FieldType)} {ad : Nat → Nat} {mp : Nat} {y : MethodName} {cc : ByteArray} {mx : Nat} {hh : List (Nat × Nat × Nat × Nat)} {fr lo mc ms : Nat} {av : List Value} {ws : va_W} {α : Type} {F : α} {rf : α → Option Value} {wf : α → va_W}
    (hy : plainName y.cls = true) (hsl : (lg_sl av).length ≤ mx)
    (body : ∀ (p : Program) (e : Env) (s : State) (m : MethodId) (args : Array Value) (below : List Frame) (meth : Method) (c : Code) (A : Nat → Prop) (ls : Array Slot), p.tables.exec = Jvm.exec → c.code = cc → meth.sig.returnType = some .long → c.maxLocals = mx → c.exceptionTable.toList = tableOf hh → (∀ w ∈ AW, w.before args s = true) → s.vm.findClass y.cls = some m.cls → meth.locks = false →
      va_K G classes tys s → NW s → NC s → SF ad mp A s s.heap → va_P G classes ws s.heap → va_D A ws → va_S A s.heap s.heap [] → (∀ q : Nat, s.heap.size ≤ q → A q) → lv_has ls mx (lv_args 0 av) →
      W p l e ({ frames := fr, cells := mc, slots := ms, locals := lo } : Room) s m args below meth c s.heap [] 0 0 (MQ below (ctQ G (rf F) (wf F) A) args s mc ms A) (F0 m 0 ls [])) : CtL l G tys ad mp y cc mx hh fr lo mc ms av ws F rf wf := by
  intro sz
  refine va_MetW (cc := cc) (maxL := mx) (ret := some .long) (hh := hh) hy rfl ?_
  intro p e s m args below meth c s₁ B hml hv
  obtain ⟨rfl, hsz, hP, hK, hN, hD0, hE, hC⟩ := hv
  subst hsz
  have hts := atoms_spec (ws := Cond.codeWith y cc mx (some .long) hh :: AW) B.pre
  have htab := vx_table (x := y) B (hts _ List.mem_cons_self)
  rw [lg_entry_eq]
  exact body p e s m _ below meth c _ _ B.exec B.bytes B.returns hml htab (fun w hw => hts w (List.mem_cons_of_mem _ hw)) (findClass_of_methodNamed B.named) B.notSynchronized hK hN hC hE hP hD0.self va_S.rf (fun q h => Or.inr h) (lv_entry av hsl)
section CALLX
variable {G : va_G} {tys : List (ClassId × FieldType)} {ad : Nat → Nat} {mp : Nat} {y : MethodName} {cc cc' : ByteArray} {mx nL : Nat} {ret : Option FieldType} {fr lo n pc index : Nat} {E : String} {As rest st0 : List Value} {b : Addr} {α : Type} {F : α} {wf : α → va_W} {bs cs cs' : List va_W} {A0 : Nat → Prop} {ls : Array Slot} {own : String}
theorem cx_callV (hE : SF ad mp A0 s s.heap) (X : Cx p s m args c cc nL own G tys) (hP : va_P G classes bs.flatten H) (hD : va_D A0 bs.flatten) (hS : va_S A0 s.heap H locs) (hA : ∀ q, s.heap.size ≤ q → A0 q)
    (C : CtT l G tys ad mp y cc' mx ret fr lo E (.ref b :: As) cs.flatten F wf) (cp : CpV y cc' mx ret n) (hl : Cond.methodLink own index y ∈ AW) (hR : fr + 1 ≤ R.frames ∧ 8 + (mx + 11) + lo ≤ R.locals)
    (ks : List Nat) (hc : ks.map (fun k => bs[k]?) = cs.map some) (hn : ks.Nodup) (hwf : wf F = cs'.flatten) (hlen : cs'.length = ks.length) (ci : Nat) {q : vw_C} {q0 : Nat} {fs : List Value} (hci : classes[ci]? = some q) (hq : q.1 = y.cls) (he : cs.flatten[q0]? = some (b, .inr (ci, fs)))
    (hnn : As.length = n) (hsize : ls.size = nL) (hstack : st0 = As.reverse ++ .ref b :: rest) (hW : (rest.map fun v => v.category).sum ≤ 8) (hdg : decode cc pc = .ok (.invokevirtual index, 3)) (hf : cells + 1 ≤ R.cells ∧ slots + 6 ≤ R.slots) {bs' : List va_W} (hbs : bput bs ks cs' = bs')
    (kk : ∀ (q : Addr) (ce : Cell) (H1 : Heap) (locs1 : List Loc), va_P G classes bs'.flatten H1 → va_D A0 bs'.flatten → va_S A0 s.heap H1 locs1 → H1[q]? = some ce → ce.vm = .none → s.vm.findClass E = some ce.cls → vx_W p l e R s m args below meth c H1 locs1 (cells + 1) (slots + 6) Q (F0 m pc ls rest) q) : W p l e R s m args below meth c H locs cells slots Q (F0 m pc ls st0) := by
  obtain ⟨hx, hb, hml, hown, hw, hK, hN⟩ := X
  obtain ⟨c1, c2, c3, c4, c5⟩ := cp
  have hPc := bl_sub hP hc
  have hDc := bl_subD hD hn hc
  have hFc := bl_free hD hS hA hc
  have hE1 := (hE.kept (fun a h1 h2 => hS.2.1 a h1 h2)).narrow hFc
  subst hbs
  have hr := vx_runV (p := p) (e := e) (R := R) (meth := meth) (locs := locs) (cells := cells) (slots := slots) (below := below) (g := F0 m pc ls st0) (As := As) (rest := rest) (b := b) (C := q.1) ⟨hx, hb, hml, hown, hw⟩ (C H.size) ⟨callB_of n hw (goodIn_aw c1) rfl rfl rfl (hw _ c4) (hw _ hl) c5 hR, hw _ c2, by rw [hq]; exact hw _ c3⟩ ⟨ctPcE_blind, va_recv hK hPc hci he, fun U hU hW2 => ⟨rfl, by rw [hU], by rw [hU]; exact hPc, va_K.moved hW2.alike hK, hN.warm hW2, hDc.weaken (fun _ _ _ _ => trivial), by rw [hU]; exact hE1.warm hW2⟩⟩ rfl hnn hsize hstack (lv_room hW) hdg hf
  intro T hT X9
  rcases hr T hT X9 with ⟨v, st₀, t, T', L, h0, X', hL, e1, e2, hq9, st⟩ | ⟨qx, st₀, t, T', L, E', ce, h0, X', hL, e1, e2, ⟨hEE, hp, hb1, hz, hk⟩, hce, hcv, hcl, st⟩
  · exact hq9.elim
  · subst hEE
    rw [h0] at hz hk
    rw [hwf] at hp hb1
    obtain ⟨hP2, hD2⟩ := bl_join hP hD hn hc (hlen.trans (bl_len hc)) hk hFc hp hb1
    obtain ⟨t2, a1, b1⟩ := kk qx ce T'.heap (locs ++ L) (by rw [e1]; exact hP2) hD2
      ⟨Nat.le_trans hS.1 (by rw [e1]; exact hz), fun q h1 h2 => by rw [e1, hk q (Nat.lt_of_lt_of_le h1 hS.1) (fun z => h2 (hFc q z))]; exact hS.2.1 q h1 h2, fun q hq => by
        rcases List.mem_append.mp hq with h | h
        · exact hS.2.2 q h
        · exact hFc _ (hL q h)⟩ (by rw [e1]; exact hce) hcv hcl T' rfl X'
    exact ⟨t2, st.trans a1, b1⟩
end CALLX
end CTL
