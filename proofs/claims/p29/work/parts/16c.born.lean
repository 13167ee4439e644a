theorem aw_intA : Cond.arrayClass .int ∈ AW := aw_mem (i := 119) (by decide +kernel) (by decide +kernel)
/-! constructors: the world behind one is told by addresses that it chose -/
def nth : List Nat → Nat → Nat
  | [], _ => 0
  | x :: _, 0 => x
  | _ :: xs, k + 1 => nth xs k
def nths : List (List Nat) → Nat → Nat → Nat
  | [], _ => fun _ => 0
  | x :: _, 0 => nth x
  | _ :: xs, k + 1 => nths xs k
def ctQN (G : va_G) {β : Type} (wf : β → va_W) (A : Nat → Prop) : Array Value → State → Outcome → State → Prop := fun _ st oc t => (oc = .returned none ∧ ∃ x : β, va_P G classes (wf x) t.heap ∧ va_D A (wf x)) ∧ va_F A st t
def CtN (l : Launch) (G : va_G) (tys : List (ClassId × FieldType)) (ad : Nat → Nat) (mp : Nat) (y : MethodName) (cc : ByteArray) (mx : Nat) (fr lo mc ms : Nat) (av : List Value) (ws : va_W) {β : Type} (wf : β → va_W) : Prop :=
  ∀ sz : Nat, Met l y (Cond.code y cc mx none :: AW) ({ frames := fr, cells := mc, slots := ms, locals := lo }) (ctPcE G tys ad mp av ws sz) (ctQN G wf (va_A ws sz)) mc ms (va_A ws sz)
section CTN
variable {p : Program} {l : Launch} {e : Env} {R : Room} {s : State} {m : MethodId} {args : Array Value} {below : List Frame} {meth : Method} {c : Code} {H : Heap} {locs : List Loc} {cells slots : Nat} {Q : State → Prop}
theorem CtN.of {G : va_G} {tys : List (ClassId × FieldType)} {ad : Nat → Nat} {mp : Nat} {y : MethodName} {cc : ByteArray} {mx : Nat} {fr lo mc ms : Nat} {av : List Value} {ws : va_W} {β : Type} {wf : β → va_W}
    (hy : plainFor y = true) (hsl : (lg_sl av).length ≤ mx)
    (body : ∀ (p : Program) (e : Env) (s : State) (m : MethodId) (args : Array Value) (below : List Frame) (meth : Method) (c : Code) (A : Nat → Prop) (ls : Array Slot), p.tables.exec = Jvm.exec → c.code = cc → meth.sig.returnType = none → c.maxLocals = mx → (∀ w ∈ AW, w.before args s = true) → s.vm.findClass y.cls = some m.cls → meth.locks = false → meth.name = y.name →
      va_K G classes tys s → NW s → SF ad mp A s s.heap → va_P G classes ws s.heap → va_D A ws → va_S A s.heap s.heap [] → (∀ q : Nat, s.heap.size ≤ q → A q) → lv_has ls mx (lv_args 0 av) →
      W p l e ({ frames := fr, cells := mc, slots := ms, locals := lo } : Room) s m args below meth c s.heap [] 0 0 (MQ below (ctQN G wf A) args s mc ms A) (F0 m 0 ls [])) : CtN l G tys ad mp y cc mx fr lo mc ms av ws wf := by
  intro sz
  refine va_MetF (cc := cc) (maxL := mx) (ret := none) hy rfl ?_
  intro p e s m args below meth c s₁ B hml hv
  obtain ⟨rfl, hsz, hP, hK, hN, hD0, hE⟩ := hv
  subst hsz
  have hts := atoms_spec (ws := Cond.code y cc mx none :: AW) B.pre
  rw [lg_entry_eq]
  exact body p e s m _ below meth c _ _ B.exec B.bytes B.returns hml (fun w hw => hts w (List.mem_cons_of_mem _ hw)) (findClass_of_methodNamed B.named) B.notSynchronized (name_of_methodNamed B.named B.method).1 hK hN hE hP hD0.self va_S.rf (fun q h => Or.inr h) (lv_entry av hsl)
theorem ct_endN {G : va_G} {β : Type} {wf : β → va_W} {A : Nat → Prop} {a : Array Value} (x : β) (hP : va_P G classes (wf x) H) (hD : va_D A (wf x)) (hS : va_S A s.heap H locs) : ∀ t : State, t.heap = H → s.WarmedH t.vm → ctQN G wf A a s (.returned none) t := by
  intro t ht _
  exact ⟨⟨rfl, x, by rw [ht]; exact hP, hD⟩, hS.F ht⟩
theorem ct_goN {G : va_G} {β : Type} {wf : β → va_W} {A0 A1 : Nat → Prop} {pc mc ms : Nat} {ls : Array Slot} {st0 rest : List Value} {a : Array Value} {free : Addr → Prop} {H0 : Heap} (hr : va_Run p l e R s m args below meth c H locs cells slots mc ms (F0 m pc ls st0) rest (ctQN G wf A1 a) free) (hS : va_S A0 H0 H locs) (hA : ∀ q, q < H.size → A1 q → A0 q) (hf : ∀ q, free q → A0 q)
    (kk : ∀ (x : β) (H1 : Heap) (locs1 : List Loc), va_P G classes (wf x) H1 → va_D A1 (wf x) → (∀ q : Nat, q < H.size → ¬ A1 q → H1[q]? = H[q]?) → va_S A0 H0 H1 locs1 → W p l e R s m args below meth c H1 locs1 (cells + mc) (slots + ms) Q (F0 m (pc + 3) ls rest)) : W p l e R s m args below meth c H locs cells slots Q (F0 m pc ls st0) := by
  intro T hT X
  obtain ⟨v, st₀, t, T', L, h0, X', hL, e1, e2, ⟨⟨hv, x, hp, hb⟩, hz, hk⟩, st⟩ := hr T hT X
  cases hv
  rw [h0] at hz hk
  obtain ⟨t2, a1, b1⟩ := kk x T'.heap (locs ++ L) (by rw [e1]; exact hp) hb (fun q h1 h2 => by rw [e1]; exact hk q h1 h2)
    ⟨Nat.le_trans hS.1 (by rw [e1]; exact hz), fun q h1 h2 => by rw [e1, hk q (Nat.lt_of_lt_of_le h1 hS.1) (fun z => h2 (hA q (Nat.lt_of_lt_of_le h1 hS.1) z))]; exact hS.2.1 q h1 h2, fun q hq => by
      rcases List.mem_append.mp hq with h | h
      · exact hS.2.2 q h
      · exact hf _ (hL q h)⟩ T' rfl X'
  exact ⟨t2, st t2 a1, b1⟩
section CALLSN
variable {G : va_G} {tys : List (ClassId × FieldType)} {ad : Nat → Nat} {mp : Nat} {y : MethodName} {cc cc' : ByteArray} {mx nL : Nat} {fr lo mc ms pc index : Nat} {rest st0 : List Value} {b : Addr} {β : Type} {wf : β → va_W} {bs cs : List va_W} {A0 : Nat → Prop} {ls : Array Slot} {own host : String}
theorem cn_callI (hE : SF ad mp A0 s s.heap) (X : Cx p s m args c cc nL own G tys) (hP : va_P G classes bs.flatten H) (hD : va_D A0 bs.flatten) (hS : va_S A0 s.heap H locs) (hA : ∀ q, s.heap.size ≤ q → A0 q)
    (C : CtN l G tys ad mp y cc' mx fr lo mc ms [.ref b] cs.flatten wf) (cp : CpI y cc' mx 0) (hl : Cond.methodLink own index y ∈ AW) (hR : fr + 1 ≤ R.frames ∧ 8 + (mx + 11) + lo ≤ R.locals)
    (ks : List Nat) (hc : ks.map (fun k => bs[k]?) = cs.map some) (hn : ks.Nodup) (cs' : β → List va_W) (hwf : ∀ x, wf x = (cs' x).flatten) (hlen : ∀ x, (cs' x).length = ks.length)
    (hsize : ls.size = nL) (hstack : st0 = .ref b :: rest) (hW : (rest.map fun v => v.category).sum ≤ 8) (hdg : decode cc pc = .ok (.invokespecial index, 3)) (hf : cells + mc ≤ R.cells ∧ slots + ms ≤ R.slots) {bs' : β → List va_W} (hbs : ∀ x, bput bs ks (cs' x) = bs' x)
    (kk : ∀ (x : β) (H1 : Heap) (locs1 : List Loc), va_P G classes (bs' x).flatten H1 → va_D A0 (bs' x).flatten → va_S A0 s.heap H1 locs1 → W p l e R s m args below meth c H1 locs1 (cells + mc) (slots + ms) Q (F0 m (pc + 3) ls rest)) : W p l e R s m args below meth c H locs cells slots Q (F0 m pc ls st0) := by
  obtain ⟨hx, hb, hml, hown, hw, hK, hN⟩ := X
  obtain ⟨c1, c2, c4, c5, c6⟩ := cp
  have hPc := bl_sub hP hc
  have hDc := bl_subD hD hn hc
  have hFc := bl_free hD hS hA hc
  have hE1 := (hE.kept (fun a h1 h2 => hS.2.1 a h1 h2)).narrow hFc
  refine ct_goN (va_runI (As := []) (rest := rest) (b := b) ⟨hx, hb, hml, hown, hw⟩ (C H.size) ⟨callB_of 0 hw (goodIn_aw c1) rfl rfl rfl (hw _ c4) (hw _ hl) c6 hR, c5, hw _ c2⟩ ⟨ctPcE_blind, fun U hU hW2 => ⟨rfl, by rw [hU], by rw [hU]; exact hPc, va_K.moved hW2.alike hK, hN.warm hW2, hDc.weaken (fun _ _ _ _ => trivial), by rw [hU]; exact hE1.warm hW2⟩⟩ rfl rfl hsize hstack (lv_room hW) hdg hf) hS (fun q _ h => hFc q h) hFc (fun x H1 locs1 hP1 hD1 hk1 hS1 => ?_)
  rw [hwf] at hP1 hD1
  obtain ⟨hP2, hD2⟩ := bl_join hP hD hn hc ((hlen x).trans (bl_len hc)) hk1 hFc hP1 hD1
  rw [hbs] at hP2 hD2
  exact kk x H1 locs1 hP2 hD2 hS1
theorem cn_callIN (hE : SF ad mp A0 s s.heap) (X : Cx p s m args c cc nL own G tys) (hP : va_P G classes bs.flatten H) (hD : va_D A0 bs.flatten) (hS : va_S A0 s.heap H locs) (hA : ∀ q, s.heap.size ≤ q → A0 q)
    (C : CtN l G tys ad mp y cc' mx fr lo mc ms [.ref b] cs.flatten wf) (cp : CpI y cc' mx 0) (hl : Cond.methodLinkNest own index y host ∈ NWl) (hR : fr + 1 ≤ R.frames ∧ 8 + (mx + 11) + lo ≤ R.locals)
    (ks : List Nat) (hc : ks.map (fun k => bs[k]?) = cs.map some) (hn : ks.Nodup) (cs' : β → List va_W) (hwf : ∀ x, wf x = (cs' x).flatten) (hlen : ∀ x, (cs' x).length = ks.length)
    (hsize : ls.size = nL) (hstack : st0 = .ref b :: rest) (hW : (rest.map fun v => v.category).sum ≤ 8) (hdg : decode cc pc = .ok (.invokespecial index, 3)) (hf : cells + mc ≤ R.cells ∧ slots + ms ≤ R.slots) {bs' : β → List va_W} (hbs : ∀ x, bput bs ks (cs' x) = bs' x)
    (kk : ∀ (x : β) (H1 : Heap) (locs1 : List Loc), va_P G classes (bs' x).flatten H1 → va_D A0 (bs' x).flatten → va_S A0 s.heap H1 locs1 → W p l e R s m args below meth c H1 locs1 (cells + mc) (slots + ms) Q (F0 m (pc + 3) ls rest)) : W p l e R s m args below meth c H locs cells slots Q (F0 m pc ls st0) := by
  obtain ⟨hx, hb, hml, hown, hw, hK, hN⟩ := X
  obtain ⟨c1, c2, c4, c5, c6⟩ := cp
  have hPc := bl_sub hP hc
  have hDc := bl_subD hD hn hc
  have hFc := bl_free hD hS hA hc
  have hE1 := (hE.kept (fun a h1 h2 => hS.2.1 a h1 h2)).narrow hFc
  refine ct_goN (va_runIN (As := []) (rest := rest) (b := b) ⟨hx, hb, hml, hown, hw⟩ (C H.size) ⟨va_cnB 0 hw (goodIn_aw c1) rfl rfl rfl (hN _ hl) (hw _ c4) c6 hR, c5, hw _ c2⟩ ⟨ctPcE_blind, fun U hU hW2 => ⟨rfl, by rw [hU], by rw [hU]; exact hPc, va_K.moved hW2.alike hK, hN.warm hW2, hDc.weaken (fun _ _ _ _ => trivial), by rw [hU]; exact hE1.warm hW2⟩⟩ rfl rfl hsize hstack (lv_room hW) hdg hf) hS (fun q _ h => hFc q h) hFc (fun x H1 locs1 hP1 hD1 hk1 hS1 => ?_)
  rw [hwf] at hP1 hD1
  obtain ⟨hP2, hD2⟩ := bl_join hP hD hn hc ((hlen x).trans (bl_len hc)) hk1 hFc hP1 hD1
  rw [hbs] at hP2 hD2
  exact kk x H1 locs1 hP2 hD2 hS1
end CALLSN
section NEWS
variable {G : va_G} {cI cS cL : ClassId} {cc : ByteArray} {nL pc : Nat} {own : String} {A : Nat → Prop} {H0 : Heap} {ws : va_W} {ls : Array Slot} {rest : List Value}
theorem cn_newi (X : Cx p s m args c cc nL own G (tyl cI cS cL)) (hP : va_P G classes ws H) (hD : va_D A ws) (hS : va_S A H0 H locs) (hA : ∀ q, H0.size ≤ q → A q) (N : Nat) {n : Int32} (hn : ¬ n < 0) (hN : n.toNatClampNeg = N) (hbytes : N * componentBytes .int ≤ 536870912) (hcells : cells + 1 ≤ R.cells) (hslots : slots + N ≤ R.slots) (hdg : decode cc pc = .ok (.newarray .int, 2))
    (kk : ∀ (q : Nat) (H1 : Heap), va_P G classes (ws ++ [(q, .inl (cI, N, .inl (fun _ => 0)))]) H1 → va_D A (ws ++ [(q, .inl (cI, N, .inl (fun _ => 0)))]) → va_S A H0 H1 locs → W p l e R s m args below meth c H1 locs (cells + 1) (slots + N) Q (F0 m (pc + 2) ls (.ref q :: rest))) : W p l e R s m args below meth c H locs cells slots Q (F0 m pc ls (.int n :: rest)) := by
  obtain ⟨hx, hb, hml, hown, hw, hK, hNW⟩ := X
  refine va_newa (atype := .int) (N' := N) (a0 := (N, .inl (fun _ => 0))) hx hb (hw _ aw_intA) rfl hK hP hD hS hA (fun cA => rfl) hn hN hbytes hcells hslots hdg (fun q cA H1 hK1 hP1 hD1 hS1 => ?_)
  have e1 := (hK1.2 2 _ rfl).2
  have e2 := (hK.2 0 _ rfl).2
  have e3 : cA = cI := Option.some.inj (e1.symm.trans e2)
  subst e3
  exact kk q H1 hP1 hD1 hS1
theorem cn_news (X : Cx p s m args c cc nL own G (tyl cI cS cL)) (hP : va_P G classes ws H) (hD : va_D A ws) (hS : va_S A H0 H locs) (hA : ∀ q, H0.size ≤ q → A q) {index : Nat} (hlink : Cond.classLink own index RX4 ∈ AW) (N : Nat) {n : Int32} (hn : ¬ n < 0) (hN : n.toNatClampNeg = N) (hbytes : N * 4 ≤ 536870912) (hcells : cells + 1 ≤ R.cells) (hslots : slots + N ≤ R.slots) (hdg : decode cc pc = .ok (.anewarray index, 3))
    (kk : ∀ (q : Nat) (H1 : Heap), va_P G classes (ws ++ [(q, .inl (cS, N, .inr (.inr (.inr (.inr (fun _ => none))))))]) H1 → va_D A (ws ++ [(q, .inl (cS, N, .inr (.inr (.inr (.inr (fun _ => none))))))]) → va_S A H0 H1 locs → W p l e R s m args below meth c H1 locs (cells + 1) (slots + N) Q (F0 m (pc + 3) ls (.ref q :: rest))) : W p l e R s m args below meth c H locs cells slots Q (F0 m pc ls (.int n :: rest)) := by
  obtain ⟨hx, hb, hml, hown, hw, hK, hNW⟩ := X
  have ha : va_AO RX4 s := hNW (.arrayOver (.object RX4)) (nw_mem (i := 127) (by decide +kernel) rfl)
  refine va_newq (C := RX4) hx hb hown (hw _ hlink) ha hK hP hD hS hA hn hN hbytes hcells hslots hdg (fun q cA H1 hK1 hP1 hD1 hS1 => ?_)
  obtain ⟨_, _, _, _, _, e1⟩ := (hK1.2 2 _ rfl).2
  obtain ⟨_, _, _, _, _, e2⟩ := (hK.2 1 _ rfl).2
  have e3 : cA = cS := Option.some.inj (e1.symm.trans e2)
  subst e3
  exact kk q H1 hP1 hD1 hS1
end NEWS
section PUTF
variable {cc : ByteArray} {pc : Nat} {ls : Array Slot} {rest : List Value} {a : Nat} {D : va_G} {cl : List vw_C} {tys : List (ClassId × FieldType)} {ws : va_W} {A : Nat → Prop} {H0 : Heap}
theorem nv_putF (hexec : p.tables.exec = Jvm.exec) (hb : c.code = cc) {own ref C : String} {T : u_T} {N ci index : Nat} {Ts : List Cond} (hts : ∀ w ∈ Ts, w.before args s = true) (hin : ∀ w ∈ u_ws C T N, w ∈ Ts) (ty0 : Nat → FieldType) (hty : ∀ k, k < N → parseFieldDescriptor (T k).2.2.1 = some (ty0 k)) (hnm : ∀ a, a < N → ∀ b, b < N → a ≠ b → (T a).2.1 ≠ (T b).2.1) (hown : s.vm.findClass own = some m.cls) (hK : va_K D cl tys s) (hP : va_P D cl ws H) (hD : va_D A ws) (hS0 : va_S A H0 H locs) (q0 : Nat) {fs : List Value} (he : ws[q0]? = some (a, .inr (ci, fs))) (hc : cl[ci]? = some (C, T, N)) (k : Nat) (hk : k < N) (hlink : (Cond.fieldLink own index ref (T k).2.1 (T k).2.2.1).before args s = true) (hsame : ∀ x, s.fieldFound? (T k).1 (T k).2.1 (T k).2.2.1 = some x → s.fieldFound? ref (T k).2.1 (T k).2.2.1 = some x) (hfin : (T k).2.2.2 = true) (hin2 : meth.name = "<init>") (hdecl : (T k).1 = own) {ty : FieldType} {v : Value} (hd : parseFieldDescriptor (T k).2.2.1 = some ty) (hn : narrow ty v = v) (hfit : fits ty v = true) (hl : k < fs.length)
    (hdg : decode cc pc = .ok (.putfield index, 3)) {ws' : va_W} (hws : ws.set q0 (a, .inr (ci, fs.set k v)) = ws') (kk : ∀ (H1 : Heap) (locs1 : List Loc), va_P D cl ws' H1 → va_D A ws' → va_S A H0 H1 locs1 → W p l e R s m args below meth c H1 locs1 cells slots Q (F0 m (pc + 3) ls rest)) : W p l e R s m args below meth c H locs cells slots Q (F0 m pc ls (v :: .ref a :: rest)) :=
  va_putF hexec hb hts hin ty0 hty hnm hown hK hP hD hS0 q0 he hc k hk hlink hsame hfin hin2 hdecl hd hn hfit hl hdg (fun H1 locs1 h1 h2 h3 => by rw [hws] at h1 h2; exact kk H1 locs1 h1 h2 h3)
end PUTF
end CTN
