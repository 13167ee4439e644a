/-! the classes whose objects the worlds hold; blocks of cells; one kind of contract for all methods -/
abbrev classes : List vw_C := [(RX2, TX2, 2), (RX3, TX3, 7), (RX4, TX4, 15), (RX5, TX5, 6)]
def bI (b : Bool) : Int32 := cond b 1 0
theorem bI_t : bI true = 1 := rfl
theorem bI_f : bI false = 0 := rfl
theorem bI_ne {b : Bool} : bI b = 0 ↔ b = false := by cases b <;> decide
/-! nest words -/
def isNest : Cond → Bool
  | .fieldLinkNest .. => true
  | .methodLinkNest .. => true
  | .castable .. => true
  | .declares .. => true
  | .arrayOver (.object _) => true
  | _ => false
def NWl : List Cond := lw_tbl.filter isNest
def NW (U : State) : Prop := ∀ w ∈ NWl, va_Nw w U
theorem nw_mem {i : Nat} {w : Cond} (h : lw_tbl[i]? = some w) (g : isNest w = true) : w ∈ NWl := List.mem_filter.mpr ⟨List.mem_of_getElem? h, g⟩
theorem NW.warm {s U : State} (hW : s.WarmedH U.vm) (h : NW s) : NW U := by
  intro w hw
  have h1 := h w hw
  have h2 : isNest w = true := (List.mem_filter.mp hw).2
  cases w with
  | fieldLinkNest => exact va_Nw.warmF hW h1
  | methodLinkNest => exact va_Nw.warmM hW h1
  | castable => exact va_Nw.warmC hW h1
  | declares => exact va_Nw.warmD hW h1
  | arrayOver t =>
    cases t with
    | object C => exact va_AO.moved hW.alike h1
    | _ => simp [isNest] at h2
  | _ => simp [isNest] at h2
theorem NW.same {u U : State} (h : u.vm = U.vm) (hN : NW u) : NW U := by
  intro w hw
  have h1 := hN w hw
  have h2 : isNest w = true := (List.mem_filter.mp hw).2
  cases w with
  | arrayOver t =>
    cases t with
    | object C => exact va_AO.moved (u := u) (by rw [h]; exact Vm.Alike.refl _) h1
    | _ => simp [isNest] at h2
  | fieldLinkNest => exact va_Nw.same rfl h h1
  | methodLinkNest => exact va_Nw.same rfl h h1
  | castable => exact va_Nw.same rfl h h1
  | declares => exact va_Nw.same rfl h h1
  | _ => simp [isNest] at h2
theorem goodIn_aw {c0 : Cond} (h : c0 ∈ AW) : GoodIn AW (c0 :: AW) := by
  intro w hw
  have h1 : w ∈ AW := by
    rcases List.mem_cons.mp hw with e | e
    · rw [e]; exact h
    · exact e
  exact ⟨h1, good_of_word (List.mem_filter.mp h1).2⟩
/-! blocks -/
theorem vaD_iff {A : Nat → Prop} {ws : va_W} : va_D A ws ↔ ws.Pairwise (fun p q => p.1 ≠ q.1) ∧ ∀ q ∈ ws, A q.1 := by
  constructor
  · intro h
    refine ⟨List.pairwise_iff_getElem.mpr fun i j hi hj hij e => ?_, fun q hq => ?_⟩
    · have := h.1 i j _ _ (List.getElem?_eq_getElem hi) (List.getElem?_eq_getElem hj) e
      omega
    · obtain ⟨k, hk⟩ := List.getElem?_of_mem hq
      exact h.2 k q hk
  · intro h
    refine ⟨fun i j p q hp hq e => ?_, fun k q hk => h.2 q (List.mem_of_getElem? hk)⟩
    have hpw := List.pairwise_iff_getElem.mp h.1
    obtain ⟨hi, hp'⟩ := List.getElem?_eq_some_iff.mp hp
    obtain ⟨hj, hq'⟩ := List.getElem?_eq_some_iff.mp hq
    rcases Nat.lt_trichotomy i j with hl | hl | hl
    · exact absurd (by rw [hp', hq']; exact e) (hpw i j hi hj hl)
    · exact hl
    · exact absurd (by rw [hp', hq']; exact e.symm) (hpw j i hj hi hl)
theorem vaP_iff {D : va_G} {cl : List vw_C} {ws : va_W} {H : Heap} : va_P D cl ws H ↔ ∀ q ∈ ws, va_at D cl q H := by
  constructor
  · intro h q hq
    obtain ⟨k, hk⟩ := List.getElem?_of_mem hq
    exact h k q hk
  · intro h k q hk
    exact h q (List.mem_of_getElem? hk)
/-- the blocks bs with the blocks cs at the places ks -/
def bput (bs : List va_W) (ks : List Nat) (cs : List va_W) : List va_W := bs.mapIdx (fun i b => match ks.idxOf? i with | some j => cs.getD j b | none => b)
theorem bput_get {bs : List va_W} {ks : List Nat} {cs : List va_W} {i : Nat} {b' : va_W} (h : (bput bs ks cs)[i]? = some b') : (∃ b, bs[i]? = some b ∧ i ∉ ks ∧ b' = b) ∨ ∃ j b, bs[i]? = some b ∧ ks[j]? = some i ∧ b' = cs.getD j b := by
  unfold bput at h
  rw [List.getElem?_mapIdx] at h
  cases hb : bs[i]? with
  | none => rw [hb] at h; cases h
  | some b =>
    rw [hb] at h
    simp only [Option.map_some, Option.some.injEq] at h
    cases hk : ks.idxOf? i with
    | none =>
      rw [hk] at h
      exact Or.inl ⟨b, rfl, List.idxOf?_eq_none_iff.mp hk, h.symm⟩
    | some j =>
      rw [hk] at h
      obtain ⟨hj, h1, -⟩ := List.findIdx?_eq_some_iff_getElem.mp hk
      have h2 : ks[j] = i := by simpa using h1
      exact Or.inr ⟨j, b, rfl, by rw [List.getElem?_eq_getElem hj, h2], h.symm⟩
theorem bl_sub {D : va_G} {cl : List vw_C} {bs cs : List va_W} {H : Heap} (hP : va_P D cl bs.flatten H) {ks : List Nat} (hc : ks.map (fun k => bs[k]?) = cs.map some) : va_P D cl cs.flatten H := by
  rw [vaP_iff] at hP ⊢
  intro q hq
  obtain ⟨b, hb, hqb⟩ := List.mem_flatten.mp hq
  obtain ⟨j, hj⟩ := List.getElem?_of_mem hb
  have h1 : (ks.map (fun k => bs[k]?))[j]? = some (some b) := by rw [hc, List.getElem?_map, hj]; rfl
  rw [List.getElem?_map] at h1
  cases hk : ks[j]? with
  | none => rw [hk] at h1; cases h1
  | some k =>
    rw [hk] at h1
    exact hP q (List.mem_flatten.mpr ⟨b, List.mem_of_getElem? (Option.some.inj h1), hqb⟩)
theorem bl_at {bs cs : List va_W} {ks : List Nat} (hc : ks.map (fun k => bs[k]?) = cs.map some) {j : Nat} {b : va_W} (hj : cs[j]? = some b) : ∃ k, ks[j]? = some k ∧ bs[k]? = some b := by
  have h1 : (ks.map (fun k => bs[k]?))[j]? = some (some b) := by rw [hc, List.getElem?_map, hj]; rfl
  rw [List.getElem?_map] at h1
  cases hk : ks[j]? with
  | none => rw [hk] at h1; cases h1
  | some k => rw [hk] at h1; exact ⟨k, rfl, Option.some.inj h1⟩
theorem bl_subD {A : Nat → Prop} {bs cs : List va_W} (hD : va_D A bs.flatten) {ks : List Nat} (hn : ks.Nodup) (hc : ks.map (fun k => bs[k]?) = cs.map some) : va_D A cs.flatten := by
  rw [vaD_iff] at hD ⊢
  obtain ⟨h1, h2⟩ := hD
  rw [List.pairwise_flatten] at h1 ⊢
  refine ⟨⟨fun b hb => ?_, List.pairwise_iff_getElem.mpr fun i j hi hj hij => ?_⟩, fun q hq => ?_⟩
  · obtain ⟨j, hj⟩ := List.getElem?_of_mem hb
    obtain ⟨k, -, hk⟩ := bl_at hc hj
    exact h1.1 b (List.mem_of_getElem? hk)
  · obtain ⟨a, ha, ha'⟩ := bl_at hc (List.getElem?_eq_getElem hi)
    obtain ⟨b, hb, hb'⟩ := bl_at hc (List.getElem?_eq_getElem hj)
    have hab : a ≠ b := by
      intro e
      subst e
      obtain ⟨q1, q2⟩ := List.getElem?_eq_some_iff.mp ha
      obtain ⟨q3, q4⟩ := List.getElem?_eq_some_iff.mp hb
      exact List.pairwise_iff_getElem.mp hn i j q1 q3 hij (q2.trans q4.symm)
    obtain ⟨ra, ea⟩ := List.getElem?_eq_some_iff.mp ha'
    obtain ⟨rb, eb⟩ := List.getElem?_eq_some_iff.mp hb'
    have hpw := List.pairwise_iff_getElem.mp h1.2
    rcases Nat.lt_or_ge a b with q | q
    · have := hpw a b ra rb q
      rw [ea, eb] at this
      exact this
    · have := hpw b a rb ra (by omega)
      rw [ea, eb] at this
      exact fun x hx y hy e => this y hy x hx e.symm
  · obtain ⟨b, hb, hqb⟩ := List.mem_flatten.mp hq
    obtain ⟨j, hj⟩ := List.getElem?_of_mem hb
    obtain ⟨k, -, hk⟩ := bl_at hc hj
    exact h2 q (List.mem_flatten.mpr ⟨b, List.mem_of_getElem? hk, hqb⟩)
theorem bl_sep {A : Nat → Prop} {bs : List va_W} (hD : va_D A bs.flatten) {i j : Nat} {b b' : va_W} (hij : i ≠ j) (hi : bs[i]? = some b) (hj : bs[j]? = some b') : ∀ p ∈ b, ∀ q ∈ b', p.1 ≠ q.1 := by
  rw [vaD_iff, List.pairwise_flatten] at hD
  have hpw := List.pairwise_iff_getElem.mp hD.1.2
  obtain ⟨ra, ea⟩ := List.getElem?_eq_some_iff.mp hi
  obtain ⟨rb, eb⟩ := List.getElem?_eq_some_iff.mp hj
  rcases Nat.lt_or_ge i j with q | q
  · have := hpw i j ra rb q
    rw [ea, eb] at this
    exact this
  · have := hpw j i rb ra (by omega)
    rw [ea, eb] at this
    exact fun x hx y hy e => this y hy x hx e.symm
/-- behind a call: the callee's blocks are new, the others as before -/
theorem bl_join {A0 : Nat → Prop} {D : va_G} {cl : List vw_C} {bs cs cs' : List va_W} {ks : List Nat} {H H1 : Heap} (hP : va_P D cl bs.flatten H) (hD : va_D A0 bs.flatten) (hn : ks.Nodup) (hc : ks.map (fun k => bs[k]?) = cs.map some) (hl : cs'.length = cs.length)
    (hk : ∀ q : Nat, q < H.size → ¬ va_A cs.flatten H.size q → H1[q]? = H[q]?) (hF : ∀ q, va_A cs.flatten H.size q → A0 q) (hP1 : va_P D cl cs'.flatten H1) (hD1 : va_D (va_A cs.flatten H.size) cs'.flatten) : va_P D cl (bput bs ks cs').flatten H1 ∧ va_D A0 (bput bs ks cs').flatten := by
  have hlk : ks.length = cs.length := by have := congrArg List.length hc; simpa using this
  have old : ∀ (i : Nat) (b : va_W), bs[i]? = some b → i ∉ ks → ∀ q ∈ b, q.1 < H.size ∧ ¬ va_A cs.flatten H.size q.1 := by
    intro i b hb hi q hq
    have hlt : q.1 < H.size := (vaP_iff.mp hP q (List.mem_flatten.mpr ⟨b, List.mem_of_getElem? hb, hq⟩)).lt
    refine ⟨hlt, fun h => ?_⟩
    rcases h with ⟨k, e, h⟩ | h
    · obtain ⟨b2, hb2, hq2⟩ := List.mem_flatten.mp (List.mem_of_getElem? h)
      obtain ⟨j, hj⟩ := List.getElem?_of_mem hb2
      obtain ⟨k2, hk2, hb3⟩ := bl_at hc hj
      have hne : i ≠ k2 := fun e2 => hi (e2 ▸ List.mem_of_getElem? hk2)
      exact bl_sep hD hne hb hb3 q hq _ hq2 rfl
    · omega
  have new : ∀ (j : Nat) (b b0 : va_W), j < ks.length → b = cs'.getD j b0 → cs'[j]? = some b := by
    intro j b b0 hj e
    have : j < cs'.length := by omega
    rw [e, List.getD_eq_getElem?_getD, List.getElem?_eq_getElem this]
    rfl
  have hP2 := vaP_iff.mp hP1
  have hP0 := vaP_iff.mp hP
  have hD2 := vaD_iff.mp hD1
  rw [List.pairwise_flatten] at hD2
  have hD0 := vaD_iff.mp hD
  rw [List.pairwise_flatten] at hD0
  have inA : ∀ (j : Nat) (b : va_W), cs'[j]? = some b → ∀ q ∈ b, va_A cs.flatten H.size q.1 := fun j b hb q hq => hD2.2 q (List.mem_flatten.mpr ⟨b, List.mem_of_getElem? hb, hq⟩)
  refine ⟨vaP_iff.mpr fun q hq => ?_, vaD_iff.mpr ⟨List.pairwise_flatten.mpr ⟨fun b hb => ?_, List.pairwise_iff_getElem.mpr fun i j hi hj hij => ?_⟩, fun q hq => ?_⟩⟩
  · obtain ⟨b, hb, hqb⟩ := List.mem_flatten.mp hq
    obtain ⟨i, hi⟩ := List.getElem?_of_mem hb
    rcases bput_get hi with ⟨b0, h1, h2, rfl⟩ | ⟨j, b0, h1, h2, h3⟩
    · obtain ⟨g1, g2⟩ := old i _ h1 h2 q hqb
      exact (hP0 q (List.mem_flatten.mpr ⟨_, List.mem_of_getElem? h1, hqb⟩)).kept (hk q.1 g1 g2)
    · exact hP2 q (List.mem_flatten.mpr ⟨b, List.mem_of_getElem? (new j b b0 (List.getElem?_eq_some_iff.mp h2).1 h3), hqb⟩)
  · obtain ⟨i, hi⟩ := List.getElem?_of_mem hb
    rcases bput_get hi with ⟨b0, h1, h2, rfl⟩ | ⟨j, b0, h1, h2, h3⟩
    · exact hD0.1.1 _ (List.mem_of_getElem? h1)
    · exact hD2.1.1 _ (List.mem_of_getElem? (new j b b0 (List.getElem?_eq_some_iff.mp h2).1 h3))
  · rcases bput_get (List.getElem?_eq_getElem hi) with ⟨b0, h1, h2, h3⟩ | ⟨j0, b0, h1, h2, h3⟩ <;> rcases bput_get (List.getElem?_eq_getElem hj) with ⟨b1, h4, h5, h6⟩ | ⟨j1, b1, h4, h5, h6⟩
    · rw [h3, h6]
      exact bl_sep hD (Nat.ne_of_lt hij) h1 h4
    · have n1 := new j1 _ b1 (List.getElem?_eq_some_iff.mp h5).1 h6
      intro x hx y hy e
      rw [h3] at hx
      exact (old i _ h1 h2 x hx).2 (by rw [e]; exact inA j1 _ n1 y hy)
    · have n0 := new j0 _ b0 (List.getElem?_eq_some_iff.mp h2).1 h3
      intro x hx y hy e
      rw [h6] at hy
      exact (old j _ h4 h5 y hy).2 (by rw [← e]; exact inA j0 _ n0 x hx)
    · have n0 := new j0 _ b0 (List.getElem?_eq_some_iff.mp h2).1 h3
      have n1 := new j1 _ b1 (List.getElem?_eq_some_iff.mp h5).1 h6
      have hne : j0 ≠ j1 := by
        intro e
        subst e
        have : some i = some j := h2.symm.trans h5
        simp only [Option.some.injEq] at this
        omega
      exact bl_sep hD1 hne n0 n1
  · obtain ⟨b, hb, hqb⟩ := List.mem_flatten.mp hq
    obtain ⟨i, hi⟩ := List.getElem?_of_mem hb
    rcases bput_get hi with ⟨b0, h1, h2, rfl⟩ | ⟨j, b0, h1, h2, h3⟩
    · exact hD0.2 q (List.mem_flatten.mpr ⟨_, List.mem_of_getElem? h1, hqb⟩)
    · exact hF _ (inA j b (new j b b0 (List.getElem?_eq_some_iff.mp h2).1 h3) q hqb)
theorem bl_free {A0 : Nat → Prop} {bs cs : List va_W} {ks : List Nat} {H0 H : Heap} {locs : List Loc} (hD : va_D A0 bs.flatten) (hS : va_S A0 H0 H locs) (hA : ∀ q, H0.size ≤ q → A0 q) (hc : ks.map (fun k => bs[k]?) = cs.map some) : ∀ q, va_A cs.flatten H.size q → A0 q := by
  intro q h
  rcases h with ⟨k, e, h⟩ | h
  · obtain ⟨b, hb, hqb⟩ := List.mem_flatten.mp (List.mem_of_getElem? h)
    obtain ⟨j, hj⟩ := List.getElem?_of_mem hb
    obtain ⟨k2, -, hk2⟩ := bl_at hc hj
    exact (vaD_iff.mp hD).2 (q, e) (List.mem_flatten.mpr ⟨b, List.mem_of_getElem? hk2, hqb⟩)
  · exact hA q (Nat.le_trans hS.1 h)
theorem bl_len {bs cs : List va_W} {ks : List Nat} (hc : ks.map (fun k => bs[k]?) = cs.map some) : ks.length = cs.length := by have := congrArg List.length hc; simpa using this
/-! the contract -/
def ctPc (G : va_G) (tys : List (ClassId × FieldType)) (av : List Value) (ws : va_W) (sz : Nat) : Array Value → State → Prop := va_Pc av (fun U => U.heap.size = sz ∧ va_P G classes ws U.heap ∧ va_K G classes tys U ∧ NW U ∧ va_D (fun _ => True) ws)
def ctQ (G : va_G) (rv : Option Value) (ws1 : va_W) (A : Nat → Prop) : Array Value → State → Outcome → State → Prop := fun _ st oc t => (oc = .returned rv ∧ va_P G classes ws1 t.heap ∧ va_D A ws1) ∧ va_F A st t
def Ct (l : Launch) (G : va_G) (tys : List (ClassId × FieldType)) (y : MethodName) (cc : ByteArray) (mx : Nat) (ret : Option FieldType) (fr lo mc ms : Nat) (av : List Value) (ws : va_W) {α : Type} (F : α) (rf : α → Option Value) (wf : α → va_W) : Prop :=
  ∀ sz : Nat, Met l y (Cond.code y cc mx ret :: AW) ({ frames := fr, cells := mc, slots := ms, locals := lo }) (ctPc G tys av ws sz) (ctQ G (rf F) (wf F) (va_A ws sz)) mc ms (va_A ws sz)
theorem ctPc_blind {G : va_G} {tys : List (ClassId × FieldType)} {av : List Value} {ws : va_W} {sz : Nat} : FrameBlind (ctPc G tys av ws sz) := by
  intro a U g mk q
  obtain ⟨q0, q1, qP, qK, qN, qD⟩ := q
  exact ⟨q0, q1, qP, va_K.moved (u := U) (U := U.calling g mk a) (Vm.Alike.refl U.vm) qK, NW.same (u := U) (U := U.calling g mk a) rfl qN, qD⟩
/-- the same contract, its world told otherwise -/
theorem Ct.conv {l : Launch} {G : va_G} {tys : List (ClassId × FieldType)} {y : MethodName} {cc : ByteArray} {mx : Nat} {ret : Option FieldType} {fr lo mc ms : Nat} {av : List Value} {ws : va_W} {α β : Type} {F : α} {rf : α → Option Value} {wf : α → va_W} {F2 : β} {rf2 : β → Option Value} {wf2 : β → va_W} (h : Ct l G tys y cc mx ret fr lo mc ms av ws F rf wf) (hr : rf F = rf2 F2) (hP : ∀ H, va_P G classes (wf F) H → va_P G classes (wf2 F2) H) (hD : ∀ A, va_D A (wf F) → va_D A (wf2 F2)) : Ct l G tys y cc mx ret fr lo mc ms av ws F2 rf2 wf2 := by
  intro sz p e ha hc hk s m args below hf happ h1 h2
  obtain ⟨n, o, q1, q2, q3, ⟨⟨q4, q5, q6⟩, q7⟩, q8⟩ := h sz p e ha hc hk s m args below hf happ h1 h2
  exact ⟨n, o, q1, q2, q3, ⟨⟨by rw [← hr]; exact q4, hP _ q5, hD _ q6⟩, q7⟩, q8⟩
section CTA
variable {p : Program} {l : Launch} {e : Env} {R : Room} {s : State} {m : MethodId} {args : Array Value} {below : List Frame} {meth : Method} {c : Code} {H : Heap} {locs : List Loc} {cells slots : Nat} {Q : State → Prop}
theorem Ct.of {G : va_G} {tys : List (ClassId × FieldType)} {y : MethodName} {cc : ByteArray} {mx : Nat} {ret : Option FieldType} {fr lo mc ms : Nat} {av : List Value} {ws : va_W} {α : Type} {F : α} {rf : α → Option Value} {wf : α → va_W}
    (hy : plainFor y = true) (hsl : (lg_sl av).length ≤ mx)
    (body : ∀ (p : Program) (e : Env) (s : State) (m : MethodId) (args : Array Value) (below : List Frame) (meth : Method) (c : Code) (A : Nat → Prop) (ls : Array Slot), p.tables.exec = Jvm.exec → c.code = cc → meth.sig.returnType = ret → c.maxLocals = mx → (∀ w ∈ AW, w.before args s = true) → s.vm.findClass y.cls = some m.cls → meth.locks = false → meth.name = y.name →
      va_K G classes tys s → NW s → va_P G classes ws s.heap → va_D A ws → va_S A s.heap s.heap [] → (∀ q : Nat, s.heap.size ≤ q → A q) → lv_has ls mx (lv_args 0 av) →
      W p l e ({ frames := fr, cells := mc, slots := ms, locals := lo } : Room) s m args below meth c s.heap [] 0 0 (MQ below (ctQ G (rf F) (wf F) A) args s mc ms A) (F0 m 0 ls [])) : Ct l G tys y cc mx ret fr lo mc ms av ws F rf wf := by
  intro sz
  refine va_MetF (cc := cc) (maxL := mx) (ret := ret) hy rfl ?_
  intro p e s m args below meth c s₁ B hml hv
  obtain ⟨rfl, hsz, hP, hK, hN, hD0⟩ := hv
  subst hsz
  have hts := atoms_spec (ws := Cond.code y cc mx ret :: AW) B.pre
  rw [lg_entry_eq]
  exact body p e s m _ below meth c _ _ B.exec B.bytes B.returns hml (fun w hw => hts w (List.mem_cons_of_mem _ hw)) (findClass_of_methodNamed B.named) B.notSynchronized (name_of_methodNamed B.named B.method).1 hK hN hP hD0.self va_S.rf (fun q h => Or.inr h) (lv_entry av hsl)
theorem ct_end {G : va_G} {α : Type} {F u : α} {rf : α → Option Value} {wf : α → va_W} {A : Nat → Prop} {a : Array Value} {v : Option Value} (hu : u = F) (hv : v = rf u) (hP : va_P G classes (wf u) H) (hD : va_D A (wf u)) (hS : va_S A s.heap H locs) : ∀ t : State, t.heap = H → s.WarmedH t.vm → ctQ G (rf F) (wf F) A a s (.returned v) t := by
  intro t ht _
  subst hu
  exact ⟨⟨by rw [hv], by rw [ht]; exact hP, hD⟩, hS.F ht⟩
theorem nar_b (b : Bool) : narrow .boolean (.int (bI b)) = .int (bI b) := by cases b <;> rfl
/-- a call of a method with such a contract has run -/
theorem ct_go {G : va_G} {rv : Option Value} {ws1 : va_W} {A0 A1 : Nat → Prop} {pc mc ms : Nat} {ls : Array Slot} {st0 st1 rest : List Value} {a : Array Value} {free : Addr → Prop} {H0 : Heap} (hr : va_Run p l e R s m args below meth c H locs cells slots mc ms (F0 m pc ls st0) rest (ctQ G rv ws1 A1 a) free) (hS : va_S A0 H0 H locs) (hA : ∀ q, q < H.size → A1 q → A0 q) (hf : ∀ q, free q → A0 q) (hst : rv.toList ++ rest = st1)
    (kk : ∀ (H1 : Heap) (locs1 : List Loc), va_P G classes ws1 H1 → va_D A1 ws1 → (∀ q : Nat, q < H.size → ¬ A1 q → H1[q]? = H[q]?) → va_S A0 H0 H1 locs1 → W p l e R s m args below meth c H1 locs1 (cells + mc) (slots + ms) Q (F0 m (pc + 3) ls st1)) : W p l e R s m args below meth c H locs cells slots Q (F0 m pc ls st0) := by
  subst hst
  intro T hT X
  obtain ⟨v, st₀, t, T', L, h0, X', hL, e1, e2, ⟨⟨hv, hp, hb⟩, hz, hk⟩, st⟩ := hr T hT X
  cases hv
  rw [h0] at hz hk
  obtain ⟨t2, a1, b1⟩ := kk T'.heap (locs ++ L) (by rw [e1]; exact hp) hb (fun q h1 h2 => by rw [e1]; exact hk q h1 h2)
    ⟨Nat.le_trans hS.1 (by rw [e1]; exact hz), fun q h1 h2 => by rw [e1, hk q (Nat.lt_of_lt_of_le h1 hS.1) (fun z => h2 (hA q (Nat.lt_of_lt_of_le h1 hS.1) z))]; exact hS.2.1 q h1 h2, fun q hq => by
      rcases List.mem_append.mp hq with h | h
      · exact hS.2.2 q h
      · exact hf _ (hL q h)⟩ T' rfl X'
  exact ⟨t2, st t2 a1, b1⟩
/-- what a caller knows of itself -/
abbrev Cx (p : Program) (s : State) (m : MethodId) (args : Array Value) (c : Code) (cc : ByteArray) (nL : Nat) (own : String) (G : va_G) (tys : List (ClassId × FieldType)) : Prop := p.tables.exec = Jvm.exec ∧ c.code = cc ∧ c.maxLocals = nL ∧ s.vm.findClass own = some m.cls ∧ (∀ w ∈ AW, w.before args s = true) ∧ va_K G classes tys s ∧ NW s
/-- what the tables say of a callee -/
def CpV (y : MethodName) (cc : ByteArray) (mx : Nat) (ret : Option FieldType) (n : Nat) : Prop := Cond.code y cc mx ret ∈ AW ∧ Cond.instanceMethod y ∈ AW ∧ Cond.selects y.cls y y ∈ AW ∧ Cond.initialized y.cls ∈ AW ∧ (y.cls ≠ "java/lang/invoke/MethodHandle" ∧ y.cls ≠ "java/lang/invoke/VarHandle" ∧ (parseMethodDescriptor y.desc).map (fun d => d.parameters.length) = some n)
def CpS (y : MethodName) (cc : ByteArray) (mx : Nat) (ret : Option FieldType) (n : Nat) : Prop := Cond.code y cc mx ret ∈ AW ∧ Cond.static y ∈ AW ∧ Cond.initialized y.cls ∈ AW ∧ (y.cls ≠ "java/lang/invoke/MethodHandle" ∧ y.cls ≠ "java/lang/invoke/VarHandle" ∧ (parseMethodDescriptor y.desc).map (fun d => d.parameters.length) = some n)
def CpI (y : MethodName) (cc : ByteArray) (mx : Nat) (n : Nat) : Prop := Cond.code y cc mx none ∈ AW ∧ Cond.instanceMethod y ∈ AW ∧ Cond.initialized y.cls ∈ AW ∧ y.name = "<init>" ∧ (y.cls ≠ "java/lang/invoke/MethodHandle" ∧ y.cls ≠ "java/lang/invoke/VarHandle" ∧ (parseMethodDescriptor y.desc).map (fun d => d.parameters.length) = some n)
section CALLS
variable {G : va_G} {tys : List (ClassId × FieldType)} {y : MethodName} {cc cc' : ByteArray} {mx nL : Nat} {ret : Option FieldType} {fr lo mc ms n pc index : Nat} {As rest st0 st1 : List Value} {b : Addr} {α : Type} {F : α} {rf : α → Option Value} {wf : α → va_W} {bs cs cs' : List va_W} {A0 : Nat → Prop} {H0 : Heap} {ls : Array Slot} {own host : String}
theorem ct_callV (X : Cx p s m args c cc nL own G tys) (hP : va_P G classes bs.flatten H) (hD : va_D A0 bs.flatten) (hS : va_S A0 H0 H locs) (hA : ∀ q, H0.size ≤ q → A0 q)
    (C : Ct l G tys y cc' mx ret fr lo mc ms (.ref b :: As) cs.flatten F rf wf) (cp : CpV y cc' mx ret n) (hl : Cond.methodLink own index y ∈ AW) (hR : fr + 1 ≤ R.frames ∧ 8 + (mx + 11) + lo ≤ R.locals)
    (ks : List Nat) (hc : ks.map (fun k => bs[k]?) = cs.map some) (hn : ks.Nodup) (hwf : wf F = cs'.flatten) (hlen : cs'.length = ks.length) (ci : Nat) {q : vw_C} {q0 : Nat} {fs : List Value} (hci : classes[ci]? = some q) (hq : q.1 = y.cls) (he : cs.flatten[q0]? = some (b, .inr (ci, fs)))
    (hnn : As.length = n) (hsize : ls.size = nL) (hstack : st0 = As.reverse ++ .ref b :: rest) (hW : (rest.map fun v => v.category).sum ≤ 8) (hdg : decode cc pc = .ok (.invokevirtual index, 3)) (hf : cells + mc ≤ R.cells ∧ slots + ms ≤ R.slots) (hst : (rf F).toList ++ rest = st1) {bs' : List va_W} (hbs : bput bs ks cs' = bs')
    (kk : ∀ (H1 : Heap) (locs1 : List Loc), va_P G classes bs'.flatten H1 → va_D A0 bs'.flatten → va_S A0 H0 H1 locs1 → W p l e R s m args below meth c H1 locs1 (cells + mc) (slots + ms) Q (F0 m (pc + 3) ls st1)) : W p l e R s m args below meth c H locs cells slots Q (F0 m pc ls st0) := by
  obtain ⟨hx, hb, hml, hown, hw, hK, hN⟩ := X
  obtain ⟨c1, c2, c3, c4, c5⟩ := cp
  have hPc := bl_sub hP hc
  have hDc := bl_subD hD hn hc
  have hFc := bl_free hD hS hA hc
  subst hbs
  refine ct_go (va_runV (As := As) (rest := rest) (b := b) (C := q.1) ⟨hx, hb, hml, hown, hw⟩ (C H.size) ⟨callB_of n hw (goodIn_aw c1) rfl rfl rfl (hw _ c4) (hw _ hl) c5 hR, hw _ c2, by rw [hq]; exact hw _ c3⟩ ⟨ctPc_blind, va_recv hK hPc hci he, fun U hU hW2 => ⟨rfl, by rw [hU], by rw [hU]; exact hPc, va_K.moved hW2.alike hK, hN.warm hW2, hDc.weaken (fun _ _ _ _ => trivial)⟩⟩ rfl hnn hsize hstack (lv_room hW) hdg hf) hS (fun q _ h => hFc q h) hFc hst (fun H1 locs1 hP1 hD1 hk1 hS1 => ?_)
  rw [hwf] at hP1 hD1
  obtain ⟨hP2, hD2⟩ := bl_join hP hD hn hc (hlen.trans (bl_len hc)) hk1 hFc hP1 hD1
  exact kk H1 locs1 hP2 hD2 hS1
theorem ct_callS (X : Cx p s m args c cc nL own G tys) (hP : va_P G classes bs.flatten H) (hD : va_D A0 bs.flatten) (hS : va_S A0 H0 H locs) (hA : ∀ q, H0.size ≤ q → A0 q)
    (C : Ct l G tys y cc' mx ret fr lo mc ms As cs.flatten F rf wf) (cp : CpS y cc' mx ret n) (hl : Cond.methodLink own index y ∈ AW) (hR : fr + 1 ≤ R.frames ∧ 8 + (mx + 11) + lo ≤ R.locals)
    (ks : List Nat) (hc : ks.map (fun k => bs[k]?) = cs.map some) (hn : ks.Nodup) (hwf : wf F = cs'.flatten) (hlen : cs'.length = ks.length)
    (hnn : As.length = n) (hsize : ls.size = nL) (hstack : st0 = As.reverse ++ rest) (hW : (rest.map fun v => v.category).sum ≤ 8) (hdg : decode cc pc = .ok (.invokestatic index, 3)) (hf : cells + mc ≤ R.cells ∧ slots + ms ≤ R.slots) (hst : (rf F).toList ++ rest = st1) {bs' : List va_W} (hbs : bput bs ks cs' = bs')
    (kk : ∀ (H1 : Heap) (locs1 : List Loc), va_P G classes bs'.flatten H1 → va_D A0 bs'.flatten → va_S A0 H0 H1 locs1 → W p l e R s m args below meth c H1 locs1 (cells + mc) (slots + ms) Q (F0 m (pc + 3) ls st1)) : W p l e R s m args below meth c H locs cells slots Q (F0 m pc ls st0) := by
  obtain ⟨hx, hb, hml, hown, hw, hK, hN⟩ := X
  obtain ⟨c1, c2, c4, c5⟩ := cp
  have hPc := bl_sub hP hc
  have hDc := bl_subD hD hn hc
  have hFc := bl_free hD hS hA hc
  subst hbs
  refine ct_go (va_runS (As := As) (rest := rest) ⟨hx, hb, hml, hown, hw⟩ (C H.size) ⟨callB_of n hw (goodIn_aw c1) rfl rfl rfl (hw _ c4) (hw _ hl) c5 hR, hw _ c2⟩ ⟨ctPc_blind, fun U hU hW2 => ⟨rfl, by rw [hU], by rw [hU]; exact hPc, va_K.moved hW2.alike hK, hN.warm hW2, hDc.weaken (fun _ _ _ _ => trivial)⟩⟩ rfl hnn hsize hstack (lv_room hW) hdg hf) hS (fun q _ h => hFc q h) hFc hst (fun H1 locs1 hP1 hD1 hk1 hS1 => ?_)
  rw [hwf] at hP1 hD1
  obtain ⟨hP2, hD2⟩ := bl_join hP hD hn hc (hlen.trans (bl_len hc)) hk1 hFc hP1 hD1
  exact kk H1 locs1 hP2 hD2 hS1
/-- a private static of a nest mate -/
theorem ct_callSN (X : Cx p s m args c cc nL own G tys) (hP : va_P G classes bs.flatten H) (hD : va_D A0 bs.flatten) (hS : va_S A0 H0 H locs) (hA : ∀ q, H0.size ≤ q → A0 q)
    (C : Ct l G tys y cc' mx ret fr lo mc ms As cs.flatten F rf wf) (cp : CpS y cc' mx ret n) (hl : Cond.methodLinkNest own index y host ∈ NWl) (hR : fr + 1 ≤ R.frames ∧ 8 + (mx + 11) + lo ≤ R.locals)
    (ks : List Nat) (hc : ks.map (fun k => bs[k]?) = cs.map some) (hn : ks.Nodup) (hwf : wf F = cs'.flatten) (hlen : cs'.length = ks.length)
    (hnn : As.length = n) (hsize : ls.size = nL) (hstack : st0 = As.reverse ++ rest) (hW : (rest.map fun v => v.category).sum ≤ 8) (hdg : decode cc pc = .ok (.invokestatic index, 3)) (hf : cells + mc ≤ R.cells ∧ slots + ms ≤ R.slots) (hst : (rf F).toList ++ rest = st1) {bs' : List va_W} (hbs : bput bs ks cs' = bs')
    (kk : ∀ (H1 : Heap) (locs1 : List Loc), va_P G classes bs'.flatten H1 → va_D A0 bs'.flatten → va_S A0 H0 H1 locs1 → W p l e R s m args below meth c H1 locs1 (cells + mc) (slots + ms) Q (F0 m (pc + 3) ls st1)) : W p l e R s m args below meth c H locs cells slots Q (F0 m pc ls st0) := by
  obtain ⟨hx, hb, hml, hown, hw, hK, hN⟩ := X
  obtain ⟨c1, c2, c4, c5⟩ := cp
  have hPc := bl_sub hP hc
  have hDc := bl_subD hD hn hc
  have hFc := bl_free hD hS hA hc
  subst hbs
  refine ct_go (va_runSN (As := As) (rest := rest) ⟨hx, hb, hml, hown, hw⟩ (C H.size) ⟨va_cnB n hw (goodIn_aw c1) rfl rfl rfl (hN _ hl) (hw _ c4) c5 hR, hw _ c2, trivial⟩ ⟨ctPc_blind, fun U hU hW2 => ⟨rfl, by rw [hU], by rw [hU]; exact hPc, va_K.moved hW2.alike hK, hN.warm hW2, hDc.weaken (fun _ _ _ _ => trivial)⟩⟩ rfl hnn hsize hstack (lv_room hW) hdg hf) hS (fun q _ h => hFc q h) hFc hst (fun H1 locs1 hP1 hD1 hk1 hS1 => ?_)
  rw [hwf] at hP1 hD1
  obtain ⟨hP2, hD2⟩ := bl_join hP hD hn hc (hlen.trans (bl_len hc)) hk1 hFc hP1 hD1
  exact kk H1 locs1 hP2 hD2 hS1
theorem ct_callI (X : Cx p s m args c cc nL own G tys) (hP : va_P G classes bs.flatten H) (hD : va_D A0 bs.flatten) (hS : va_S A0 H0 H locs) (hA : ∀ q, H0.size ≤ q → A0 q)
    (C : Ct l G tys y cc' mx none fr lo mc ms (.ref b :: As) cs.flatten F rf wf) (cp : CpI y cc' mx n) (hl : Cond.methodLink own index y ∈ AW) (hR : fr + 1 ≤ R.frames ∧ 8 + (mx + 11) + lo ≤ R.locals)
    (ks : List Nat) (hc : ks.map (fun k => bs[k]?) = cs.map some) (hn : ks.Nodup) (hwf : wf F = cs'.flatten) (hlen : cs'.length = ks.length)
    (hnn : As.length = n) (hsize : ls.size = nL) (hstack : st0 = As.reverse ++ .ref b :: rest) (hW : (rest.map fun v => v.category).sum ≤ 8) (hdg : decode cc pc = .ok (.invokespecial index, 3)) (hf : cells + mc ≤ R.cells ∧ slots + ms ≤ R.slots) (hst : (rf F).toList ++ rest = st1) {bs' : List va_W} (hbs : bput bs ks cs' = bs')
    (kk : ∀ (H1 : Heap) (locs1 : List Loc), va_P G classes bs'.flatten H1 → va_D A0 bs'.flatten → va_S A0 H0 H1 locs1 → W p l e R s m args below meth c H1 locs1 (cells + mc) (slots + ms) Q (F0 m (pc + 3) ls st1)) : W p l e R s m args below meth c H locs cells slots Q (F0 m pc ls st0) := by
  obtain ⟨hx, hb, hml, hown, hw, hK, hN⟩ := X
  obtain ⟨c1, c2, c4, c5, c6⟩ := cp
  have hPc := bl_sub hP hc
  have hDc := bl_subD hD hn hc
  have hFc := bl_free hD hS hA hc
  subst hbs
  refine ct_go (va_runI (As := As) (rest := rest) (b := b) ⟨hx, hb, hml, hown, hw⟩ (C H.size) ⟨callB_of n hw (goodIn_aw c1) rfl rfl rfl (hw _ c4) (hw _ hl) c6 hR, c5, hw _ c2⟩ ⟨ctPc_blind, fun U hU hW2 => ⟨rfl, by rw [hU], by rw [hU]; exact hPc, va_K.moved hW2.alike hK, hN.warm hW2, hDc.weaken (fun _ _ _ _ => trivial)⟩⟩ rfl hnn hsize hstack (lv_room hW) hdg hf) hS (fun q _ h => hFc q h) hFc hst (fun H1 locs1 hP1 hD1 hk1 hS1 => ?_)
  rw [hwf] at hP1 hD1
  obtain ⟨hP2, hD2⟩ := bl_join hP hD hn hc (hlen.trans (bl_len hc)) hk1 hFc hP1 hD1
  exact kk H1 locs1 hP2 hD2 hS1
end CALLS
end CTA
