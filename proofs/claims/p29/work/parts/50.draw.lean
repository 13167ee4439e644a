/-! an int drawn of the script -/
def drV (L : Nat) (xs : Nat → Int32) (k : Nat) : Int32 := (if k < L then xs k else (15594239 : Int32) * nI k + (10837 : Int32)) &&& (2147483647 : Int32)
def drN (L : Nat) (xs : Nat → Int32) (k : Nat) : Nat := (drV L xs k).toNatClampNeg
theorem drV_pos (x : Int32) : 0 ≤ (x &&& (2147483647 : Int32)).toInt := by
  have h : (x &&& (2147483647 : Int32)).toBitVec.msb = false := by
    rw [Int32.toBitVec_and, BitVec.msb_and]
    rw [show (2147483647 : Int32).toBitVec.msb = false from by decide +kernel, Bool.and_false]
  show 0 ≤ (x &&& (2147483647 : Int32)).toBitVec.toInt
  rw [BitVec.toInt_eq_toNat_of_msb h]
  exact Int.natCast_nonneg _
theorem drN_eq (L : Nat) (xs : Nat → Int32) (k : Nat) : drV L xs k = nI (drN L xs k) := by
  have h : 0 ≤ (drV L xs k).toInt := drV_pos _
  have h2 := (drV L xs k).toInt_lt
  exact (vp_nI (n := 2147483648) (vp_in_iff.mpr ⟨h, by omega⟩)).symm
theorem drN_lt (L : Nat) (xs : Nat → Int32) (k : Nat) : drN L xs k < 2 ^ 31 := by
  have h : 0 ≤ (drV L xs k).toInt := drV_pos _
  have h2 := (drV L xs k).toInt_lt
  exact vp_lt (n := 2147483648) (vp_in_iff.mpr ⟨h, by omega⟩)
def drPc (b L : Nat) (xs : Nat → Int32) (av : List Value) (sz : Nat) : Array Value → State → Prop := va_Pc av (fun U => U.heap.size = sz ∧ va_X b L xs U U.heap ∧ b < U.heap.size)
theorem drPc_blind {b L : Nat} {xs : Nat → Int32} {av : List Value} {sz : Nat} : FrameBlind (drPc b L xs av sz) := by
  intro a U g mk q
  obtain ⟨q0, q1, qX, qb⟩ := q
  exact ⟨q0, q1, qX.moved (u := U) (U := U.calling g mk a) (Vm.Alike.refl U.vm), qb⟩
set_option maxHeartbeats 4000000 in
theorem k_draw (l : Launch) (G : va_G) (b L : Nat) (xs : Nat → Int32) (hL : L ≤ 2048) (k : Nat) (hk : k < 2 ^ 31) : ∀ sz : Nat, Met l yL_draw (Cond.code yL_draw cL_draw 2 (some .int) :: AW) ({ frames := 0, cells := 0, slots := 0, locals := 0 }) (drPc b L xs [.ref b, .int (nI k)] sz) (ctQ G (some (.int (drV L xs k))) [] (va_A [] sz)) 0 0 (va_A [] sz) := by
  intro sz
  refine va_MetF (cc := cL_draw) (maxL := 2) (ret := some .int) (by decide +kernel) rfl ?_
  intro p e s m args below meth c s₁ B hml hv
  obtain ⟨rfl, hsz, hX, hbl⟩ := hv
  subst hsz
  have hts := atoms_spec (ws := Cond.code yL_draw cL_draw 2 (some .int) :: AW) B.pre
  rw [lg_entry_eq]
  have hx := B.exec
  have hb := B.bytes
  have hr := B.returns
  have hw : ∀ w ∈ AW, w.before #[Value.ref b, .int (nI k)] s = true := fun w hw => hts w (List.mem_cons_of_mem _ hw)
  have hown : s.vm.findClass RL = some m.cls := findClass_of_methodNamed B.named
  have hbA : ¬ va_A [] s.heap.size b := by
    intro q
    rcases q with ⟨j, e, h⟩ | h
    · cases h
    · exact Nat.not_le.mpr hbl h
  have hS : va_S (va_A [] s.heap.size) s.heap s.heap [] := va_S.rf
  have hP : va_P G classes ([] : va_W) s.heap := fun k q h => by cases h
  have hD : va_D (va_A [] s.heap.size) ([] : va_W) := ⟨(fun i j p q h => by cases h), (fun k q h => by cases h)⟩
  have key : ∀ (ls : Array Slot) (v : Int32), drV L xs k = v &&& (2147483647 : Int32) → W p l e ({ frames := 0, cells := 0, slots := 0, locals := 0 } : Room) s m #[Value.ref b, .int (nI k)] below meth c s.heap [] 0 0 (MQ below (ctQ G (some (.int (drV L xs k))) [] (va_A [] s.heap.size)) #[Value.ref b, .int (nI k)] s 0 0 (va_A [] s.heap.size)) (F0 m 20 ls [.int v]) := by
    intro ls v hv
    refine lv_ldc hx hb hown (hw _ aw_195) dL_draw_20 ?_
    refine lv_iand hx hb dL_draw_22 ?_
    rw [← hv]
    exact W.iret hx hb hr (ct_end (F := drV L xs k) (u := drV L xs k) (rf := fun u => some (.int u)) (wf := fun _ => []) rfl rfl hP hD hS) hS.2.2 dL_draw_23
  have hl := lv_entry [Value.ref b, .int (nI k)] (n := 2) (Nat.le_of_ble_eq_true rfl)
  refine lv_iload_n hx hb dL_draw_0 rfl (lv_at hl 1 rfl) ?_
  refine lv_aload_n hx hb dL_draw_1 rfl (lv_at hl 0 rfl) ?_
  refine va_slen hx hb hX hbl hbA hS dL_draw_2 ?_
  refine nv_ge hx hb k L 12 (by omega) (by omega) dL_draw_3 (by decide) (fun c_0 => ?_) (fun c_0 => ?_)
  · refine lv_ldc hx hb hown (hw _ aw_194) dL_draw_12 ?_
    refine lv_iload_n hx hb dL_draw_14 rfl (lv_at hl 1 rfl) ?_
    refine lv_imul hx hb dL_draw_15 ?_
    refine lv_sipush (v := 10837) hx hb dL_draw_16 (by decide) ?_
    refine lv_iadd hx hb dL_draw_19 ?_
    exact key _ _ (by unfold drV; rw [if_neg (Nat.not_lt.mpr c_0)])
  · refine lv_aload_n hx hb dL_draw_6 rfl (lv_at hl 0 rfl) ?_
    refine lv_iload_n hx hb dL_draw_7 rfl (lv_at hl 1 rfl) ?_
    refine va_sld hx hb hX hbl hbA hS (vp_in_nI (by omega) (by omega)) dL_draw_8 ?_
    refine lv_goto (tgt := 20) hx hb dL_draw_9 (by decide) ?_
    exact key _ _ (show drV L xs k = xs (nI k).toNatClampNeg &&& (2147483647 : Int32) by unfold drV; rw [if_pos (by omega), nI_clamp (by omega)])
theorem bput_no (bs : List va_W) : bput bs [] [] = bs := by
  refine List.ext_getElem? (fun i => ?_)
  unfold bput
  rw [List.getElem?_mapIdx]
  cases bs[i]? <;> rfl
section DRAW
variable {p : Program} {l : Launch} {e : Env} {R : Room} {s : State} {m : MethodId} {args : Array Value} {below : List Frame} {meth : Method} {c : Code} {H : Heap} {locs : List Loc} {cells slots : Nat} {Q : State → Prop} {G : va_G} {tys : List (ClassId × FieldType)} {cc : ByteArray} {nL pc index b L : Nat} {xs : Nat → Int32} {rest : List Value} {bs : List va_W} {A0 : Nat → Prop} {ls : Array Slot} {own : String}
/-- a call of the law's draw -/
theorem dr_call (X : Cx p s m args c cc nL own G tys) (hP : va_P G classes bs.flatten H) (hD : va_D A0 bs.flatten) (hS : va_S A0 s.heap H locs) (hA : ∀ q, s.heap.size ≤ q → A0 q) (hX : va_X b L xs s s.heap) (hbl : b < s.heap.size) (hbA : ¬ A0 b) (hL : L ≤ 2048) (k : Nat) (hk : k < 2 ^ 31) (cp : CpS yL_draw cL_draw 2 (some .int) 2) (hl : Cond.methodLink own index yL_draw ∈ AW) (hR : 0 + 1 ≤ R.frames ∧ 8 + (2 + 11) + 0 ≤ R.locals)
    (hsize : ls.size = nL) (hW : (rest.map fun v => v.category).sum ≤ 8) (hdg : decode cc pc = .ok (.invokestatic index, 3)) (hf : cells ≤ R.cells ∧ slots ≤ R.slots)
    (kk : ∀ (H1 : Heap) (locs1 : List Loc), va_P G classes bs.flatten H1 → va_D A0 bs.flatten → va_S A0 s.heap H1 locs1 → W p l e R s m args below meth c H1 locs1 cells slots Q (F0 m (pc + 3) ls (.int (nI (drN L xs k)) :: rest))) : W p l e R s m args below meth c H locs cells slots Q (F0 m pc ls (.int (nI k) :: .ref b :: rest)) := by
  obtain ⟨hx, hb, hml, hown, hw, hK, hN⟩ := X
  obtain ⟨c1, c2, c4, c5⟩ := cp
  have hf0 : ∀ q, va_A ([] : va_W) H.size q → A0 q := by
    intro q h
    rcases h with ⟨j, e, h⟩ | h
    · cases h
    · exact hA q (Nat.le_trans hS.1 h)
  have hXH : va_X b L xs s H := hX.kept (hS.2.1 b hbl hbA)
  refine ct_go (va_runS (As := [.ref b, .int (nI k)]) (rest := rest) ⟨hx, hb, hml, hown, hw⟩ (k_draw l G b L xs hL k hk H.size) ⟨callB_of 2 hw (goodIn_aw c1) rfl rfl rfl (hw _ c4) (hw _ hl) c5 hR, hw _ c2⟩ ⟨drPc_blind, fun U hU hW2 => ⟨rfl, by rw [hU], by rw [hU]; exact hXH.moved hW2.alike, by rw [hU]; exact Nat.lt_of_lt_of_le hbl hS.1⟩⟩ rfl rfl hsize rfl (lv_room hW) hdg hf) hS (fun q _ h => hf0 q h) hf0 rfl (fun H1 locs1 hP1 hD1 hk1 hS1 => ?_)
  obtain ⟨hP2, hD2⟩ := bl_join (bs := bs) (ks := []) (cs := []) (cs' := []) hP hD (by decide) rfl rfl hk1 hf0 hP1 hD1
  rw [bput_no] at hP2 hD2
  rw [drN_eq]
  exact kk H1 locs1 hP2 hD2 hS1
end DRAW
