/-! what holds at the law's entry: out of the tables and of what the Statement gives -/
def flw : List Cond := flatC (Jvm.Cond.and given_1 narrow_1)
theorem fl_ex : ∀ i, i < 7 → Cond.exactly (.static RX1 (nmD.getD i "") dDue) RX1 ∈ flw := by decide +kernel
theorem fl_or : ∀ q ∈ FD, ∀ i, i < 7 → Cond.eq (.field (.static RX1 (nmD.getD i "") dDue) q.1 q.2.1 q.2.2.1) (.int (q.2.2.2.getD i 0)) ∈ flw := by decide +kernel
theorem fl_ne : ∀ i, i < 7 → ∀ j, j < 7 → i ≠ j → Cond.not (.eq (.static RX1 (nmD.getD i "") dDue) (.static RX1 (nmD.getD j "") dDue)) ∈ flw ∨ Cond.not (.eq (.static RX1 (nmD.getD j "") dDue) (.static RX1 (nmD.getD i "") dDue)) ∈ flw := by decide +kernel
theorem tb_due : ∀ i, i < 7 → Cond.laysStatic RX1 (nmD.getD i "") dDue ∈ lw_tbl := by decide +kernel
theorem tb_ini1 : Cond.initialized RX1 ∈ lw_tbl := by decide +kernel
theorem tb_ini0 : Cond.initialized RX0 ∈ lw_tbl := by decide +kernel
theorem tb_map : Cond.laysStatic RX0 "$SwitchMap$TandemClocks$Due" "[I" ∈ lw_tbl := by decide +kernel
theorem fl_mapA : Cond.arrayOf (.static RX0 "$SwitchMap$TandemClocks$Due" "[I") .int ∈ flw := by decide +kernel
theorem fl_mapL : Cond.eq (.length (.static RX0 "$SwitchMap$TandemClocks$Due" "[I")) (.int 7) ∈ flw := by decide +kernel
theorem fl_mapE : ∀ j, j < 7 → Cond.eq (.elem (.static RX0 "$SwitchMap$TandemClocks$Due" "[I") (.int (Int32.ofNat j))) (.int (([1, 2, 3, 4, 5, 6, 0] : List Int32).getD j 0)) ∈ flw := by decide +kernel
theorem tb_thr : Cond.initialized Bundle.tN ∈ lw_tbl ∧ Cond.laysStatic Bundle.tN "UNASSIGNED_STACK" Bundle.steD ∈ lw_tbl ∧ Cond.laysStatic Bundle.tN "SUPPRESSED_SENTINEL" Bundle.listD ∈ lw_tbl := by decide +kernel
theorem fl_thr : Cond.isRef (.static Bundle.tN "UNASSIGNED_STACK" Bundle.steD) ∈ flw ∧ Cond.isRef (.static Bundle.tN "SUPPRESSED_SENTINEL" Bundle.listD) ∈ flw := by decide +kernel
theorem tb_str : ∀ q ∈ strs, Cond.stringRef RX5 q.1 q.2 ∈ lw_tbl := by decide +kernel
theorem fl_str : ∀ q ∈ strs, Cond.exactly (.string RX5 q.1) "java/lang/String" ∈ flw := by decide +kernel
theorem fl_nc : ∀ q ∈ ncs, Cond.not (.castable q.1 q.2) ∈ flw := by decide +kernel
theorem law_NW {s : State} {args : Array Value} (hts : ∀ w ∈ lw_tbl, w.before args s = true) : NW s := by
  intro w hw
  have h1 := hts w (List.mem_filter.mp hw).1
  have h2 : isNest w = true := (List.mem_filter.mp hw).2
  cases w with
  | fieldLinkNest => exact va_Nw.of rfl h1
  | methodLinkNest => exact va_Nw.of rfl h1
  | castable => exact va_Nw.of rfl h1
  | declares => exact va_Nw.of rfl h1
  | arrayOver t =>
    cases t with
    | object C => exact va_AO.of h1
    | _ => simp [isNest] at h2
  | _ => simp [isNest] at h2
theorem law_K {s : State} {args : Array Value} (hw : ∀ w ∈ AW, w.before args s = true) (hN : NW s) : ∃ (G : va_G) (cI cS cL : ClassId), va_K G classes (tyl cI cS cL) s := by
  obtain ⟨c0, i0, k0⟩ := u_known hw in_X2 (hw _ aw_121)
  obtain ⟨c1, i1, k1⟩ := u_known hw in_X3 (hw _ aw_138)
  obtain ⟨c2, i2, k2⟩ := u_known hw in_X4 (hw _ aw_61)
  obtain ⟨c3, i3, k3⟩ := u_known hw in_X5 (hw _ aw_53)
  obtain ⟨cI, kI, compI, a1, a2, a3⟩ := Cond.arrayClass_spec (hw _ aw_intA)
  have ha : va_AO RX4 s := hN (.arrayOver (.object RX4)) (nw_mem (i := 127) (by decide +kernel) rfl)
  obtain ⟨comp, cS, kS, d1, d2, d3, d4, d5⟩ := Cond.arrayOver_spec ha
  refine ⟨(fun c => match c with | 0 => c0 | 1 => c1 | 2 => c2 | _ => c3, fun c => match c with | 0 => i0 | 1 => i1 | 2 => i2 | _ => i3), cI, cS, cI, ?_, ?_⟩
  · intro c q h
    match c, h with
    | 0, h => cases h; exact k0
    | 1, h => cases h; exact k1
    | 2, h => cases h; exact k2
    | 3, h => cases h; exact k3
    | n + 4, h => exact absurd (List.getElem?_eq_some_iff.mp h).1 (by show ¬ n + 4 < 4; omega)
  · intro c q h
    match c, h with
    | 0, h => cases h; exact ⟨fun n z => ⟨fun k h => (by cases h), kI, a2, compI, a3⟩, a1⟩
    | 1, h => cases h; exact ⟨fun n z => ⟨fun k h => (by cases h), kS, d3, comp, d4⟩, kS, comp, d3, d4, d1, d5⟩
    | n + 2, h => exact absurd (List.getElem?_eq_some_iff.mp h).1 (by show ¬ n + 2 < 2; omega)
theorem law_SF {s : State} {args : Array Value} (hts : ∀ w ∈ lw_tbl, w.before args s = true) (hfl : ∀ w ∈ flw, w.before args s = true) : ∃ (ad : Nat → Nat) (mp : Nat), SF ad mp (fun q : Nat => s.heap.size ≤ q) s s.heap := by
  have hA : ∀ a : Nat, a < s.heap.size → ¬ (fun q : Nat => s.heap.size ≤ q) a := fun a h => Nat.not_le.mpr h
  obtain ⟨ad, had⟩ := va_Enof (E := RX1) (d := dDue) (nm := nmD) (F := FD) (A := fun q : Nat => s.heap.size ≤ q) (fun i hi => hts _ (tb_due i hi)) (hts _ tb_ini1) (fun i hi => hfl _ (fl_ex i hi)) (fun q hq i hi => hfl _ (fl_or q hq i hi)) (fun i j hi hj hij => (fl_ne i hi j hj hij).elim (fun h => Or.inl (hfl _ h)) (fun h => Or.inr (hfl _ h))) hA
  obtain ⟨mp, hv, hT⟩ := va_Tof (ty := .int) (N := 7) (f := mapF) (A := fun q : Nat => s.heap.size ≤ q) (by decide) (hfl _ fl_mapA) (va_eqt (hfl _ fl_mapL)) (fun j hj => va_eqt (hfl _ (fl_mapE j hj))) hA
  refine ⟨ad, mp, had, va_Zof (hts _ tb_map) (hts _ tb_ini0) hv hA, hT, vx_Zqof (hts _ tb_thr.2.1) (hts _ tb_thr.1) (hfl _ fl_thr.1) hA, vx_Zqof (hts _ tb_thr.2.2) (hts _ tb_thr.1) (hfl _ fl_thr.2) hA, fun q hq => ?_⟩
  obtain ⟨a, c, cell, k, q1, -⟩ := Cond.exactly_spec (hfl _ (fl_str q hq))
  exact ⟨a, vk_R.of (hts _ (tb_str q hq)) q1⟩
