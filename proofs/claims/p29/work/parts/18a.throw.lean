/-! methods that throw: the contract and its end -/
def ctX (G : va_G) (E : String) (ws1 : va_W) (A : Nat → Prop) : String → State → State → Prop := fun E' st t => E' = E ∧ va_P G classes ws1 t.heap ∧ va_D A ws1 ∧ va_F A st t
def CtT (l : Launch) (G : va_G) (tys : List (ClassId × FieldType)) (ad : Nat → Nat) (mp : Nat) (y : MethodName) (cc : ByteArray) (mx : Nat) (ret : Option FieldType) (fr lo : Nat) (E : String) (av : List Value) (ws : va_W) {α : Type} (F : α) (wf : α → va_W) : Prop :=
  ∀ sz : Nat, vx_Met l y (Cond.code y cc mx ret :: AW) ({ frames := fr, cells := 1, slots := 6, locals := lo }) (ctPcE G tys ad mp av ws sz) (fun _ _ _ _ => False) (ctX G E (wf F) (va_A ws sz)) 1 6 (va_A ws sz)
def NMS : List String := ["java/lang/RuntimeException", "java/lang/Exception"]
theorem tw_all {L : List Cond} (h : L.all (fun w => decide (w ∈ lw_tbl) && (goodWord w || (isNest w && w.onTables))) = true) {s : State} {args : Array Value} (hw : ∀ w ∈ AW, w.before args s = true) (hN : NW s) : ∀ w ∈ L, w.before args s = true := by
  intro w hx
  have h1 := List.all_eq_true.mp h w hx
  simp only [Bool.and_eq_true, Bool.or_eq_true, decide_eq_true_eq] at h1
  rcases h1.2 with g | g
  · exact hw w (List.mem_filter.mpr ⟨h1.1, g⟩)
  · exact va_Nw.use g.2 (hN w (List.mem_filter.mpr ⟨h1.1, g.1⟩))
section CTT
variable {p : Program} {l : Launch} {e : Env} {R : Room} {s : State} {m : MethodId} {args : Array Value} {below : List Frame} {meth : Method} {c : Code} {H : Heap} {locs : List Loc}
theorem CtT.of {G : va_G} {tys : List (ClassId × FieldType)} {ad : Nat → Nat} {mp : Nat} {y : MethodName} {cc : ByteArray} {mx : Nat} {ret : Option FieldType} {fr lo : Nat} {E : String} {av : List Value} {ws : va_W} {α : Type} {F : α} {wf : α → va_W}
    (hy : plainName y.cls = true) (hsl : (lg_sl av).length ≤ mx)
    (body : ∀ (p : Program) (e : Env) (s : State) (m : MethodId) (args : Array Value) (below : List Frame) (meth : Method) (c : Code) (A : Nat → Prop) (ls : Array Slot), p.tables.exec = Jvm.exec → c.code = cc → c.maxLocals = mx → (∀ x ∈ c.exceptionTable.toList, False) → (∀ w ∈ AW, w.before args s = true) → s.vm.findClass y.cls = some m.cls → meth.locks = false →
      va_K G classes tys s → NW s → SF ad mp A s s.heap → va_P G classes ws s.heap → va_D A ws → va_S A s.heap s.heap [] → (∀ q : Nat, s.heap.size ≤ q → A q) → lv_has ls mx (lv_args 0 av) →
      W p l e ({ frames := fr, cells := 1, slots := 6, locals := lo } : Room) s m args below meth c s.heap [] 0 0 (vx_MQ below (fun _ _ _ _ => False) (ctX G E (wf F) A) args s 1 6 A) (F0 m 0 ls [])) : CtT l G tys ad mp y cc mx ret fr lo E av ws F wf := by
  intro sz
  refine vx_ofW (cc := cc) (maxL := mx) (ret := ret) hy rfl ?_
  intro p e s m args below meth c s₁ B hml ht hv
  obtain ⟨rfl, hsz, hP, hK, hN, hD0, hE⟩ := hv
  subst hsz
  have hts := atoms_spec (ws := Cond.code y cc mx ret :: AW) B.pre
  rw [lg_entry_eq]
  exact body p e s m _ below meth c _ _ B.exec B.bytes hml ht (fun w hw => hts w (List.mem_cons_of_mem _ hw)) (findClass_of_methodNamed B.named) B.notSynchronized hK hN hE hP hD0.self va_S.rf (fun q h => Or.inr h) (lv_entry av hsl)
theorem ct_throw {G : va_G} {tys : List (ClassId × FieldType)} {ad : Nat → Nat} {mp : Nat} {A : Nat → Prop} {cc : ByteArray} {nL pc ik is ic : Nat} {cls text : String} {ls : Array Slot} {rest : List Value} {α : Type} {F u : α} {wf : α → va_W} (hlt : l.stackTraces = false) (hE : SF ad mp A s s.heap) (X : Cx p s m args c cc nL RX5 G tys) (ht : ∀ x ∈ c.exceptionTable.toList, False) (hlocks : meth.locks = false) (hu : u = F) (hP : va_P G classes (wf u) H) (hD : va_D A (wf u)) (hS : va_S A s.heap H locs)
    (hstr : (is, text) ∈ strs) (hk : Cond.classLink RX5 ik cls ∈ AW) (hini : Cond.initialized cls ∈ AW) (hfit : Bundle.fit cls = true) (hall : (vx_atS RX5 ic cls NMS).all (fun w => decide (w ∈ lw_tbl) && (goodWord w || (isNest w && w.onTables))) = true) (hot : (vx_atS RX5 ic cls NMS).all vx_ot = true) (hsz : ls.size = nL)
    (d0 : decode cc pc = .ok (.new ik, 3)) (d3 : decode cc (pc + 3) = .ok (.dup, 1)) (d4 : decode cc (pc + 4) = .ok (.ldc is, 2)) (d6 : decode cc (pc + 6) = .ok (.invokespecial ic, 3)) (d9 : decode cc (pc + 9) = .ok (.athrow, 1)) (hR : 5 < R.frames ∧ (rest.map fun v => v.category).sum + 82 ≤ R.locals ∧ 1 ≤ R.cells ∧ 6 ≤ R.slots) : W p l e R s m args below meth c H locs 0 0 (vx_MQ below (fun _ _ _ _ => False) (ctX G cls (wf F) A) args s 1 6 A) (F0 m pc ls rest) := by
  subst hu
  obtain ⟨hx, hb, hml, hown, hw, hK, hN⟩ := X
  obtain ⟨sa, hsa⟩ := hE.2.2.2.2.2 _ hstr
  refine vx_throwS (names := NMS) hx hb hlt hown hfit (by decide +kernel) (hw _ hk) (hw _ hini) hsa (tw_all hall hw hN) (fun w h => ?_) hE.2.2.2.1 hE.2.2.2.2.1 hS (hsz.trans hml.symm) d0 d3 d4 d6 d9 (fun x h => (ht x h).elim) hR.1 hR.2.1 (by show 0 + 1 ≤ R.cells; omega) (by show 0 + 6 ≤ R.slots; omega) hlocks (fun t h1 h2 h3 => ?_) hS.2.2 (Nat.le_refl 1) (Nat.le_refl 6)
  · rcases List.mem_cons.mp h with e1 | h
    · rw [e1]; rfl
    · rcases List.mem_cons.mp h with e1 | h
      · rw [e1]; rfl
      · exact List.all_eq_true.mp hot w h
  · exact ⟨rfl, hP.kept (fun k x hx => h3 x.1 ((hP k x hx).lt)), hD, Nat.le_trans hS.1 h2, fun q g1 g2 => (h3 q (Nat.lt_of_lt_of_le g1 hS.1)).trans (hS.2.1 q g1 g2)⟩
end CTT
theorem tl_IAE : (vx_atS RX5 44 "java/lang/IllegalArgumentException" NMS).all (fun w => decide (w ∈ lw_tbl) && (goodWord w || (isNest w && w.onTables))) = true := by decide +kernel
theorem tl_IOB : (vx_atS RX5 62 "java/lang/IndexOutOfBoundsException" NMS).all (fun w => decide (w ∈ lw_tbl) && (goodWord w || (isNest w && w.onTables))) = true := by decide +kernel
theorem tl_ISE : (vx_atS RX5 86 "java/lang/IllegalStateException" NMS).all (fun w => decide (w ∈ lw_tbl) && (goodWord w || (isNest w && w.onTables))) = true := by decide +kernel
theorem to_IAE : (vx_atS RX5 44 "java/lang/IllegalArgumentException" NMS).all vx_ot = true := by decide +kernel
theorem to_IOB : (vx_atS RX5 62 "java/lang/IndexOutOfBoundsException" NMS).all vx_ot = true := by decide +kernel
theorem to_ISE : (vx_atS RX5 86 "java/lang/IllegalStateException" NMS).all vx_ot = true := by decide +kernel
