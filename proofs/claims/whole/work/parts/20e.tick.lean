/-! a tick, and ticks -/
section TICK
variable {bm sp ph sg st wy ks nt gv se : Nat → Int32} {tk kk sk : Int32} {pl ld : Nat → Int32} {row : Nat → Int32}
theorem way_eq (x : Int32) : (if 0 ≤ x then x else (0 : Int32)) = (if (0 : Int32) < x then x else (0 : Int32)) := by
  by_cases c : (0 : Int32) < x
  · rw [if_pos c, if_pos (Int32.le_iff_toInt_le.mpr (by have := Int32.lt_iff_toInt_lt.mp c; omega))]
  · rw [if_neg c]
    split
    · rename_i c2
      have c2 := Int32.le_iff_toInt_le.mp c2
      have c3 : ¬ (0 : Int32).toInt < x.toInt := fun q => c (Int32.lt_iff_toInt_lt.mpr q)
      exact Int32.toInt_inj.mp (by omega)
    · rfl
/-- what the loops over the clocks hold of each other -/
def GP (bm sp ks nt gv se : Nat → Int32) (tk kk sk : Int32) (pl ld : Nat → Int32) (a : Int32 × (Nat → Int32) × (Nat → Int32) × (Nat → Int32) × (Nat → Int32)) (z : Int32 × (Nat → Int32)) : Prop :=
  a.1 = z.1 ∧ Rel (bm, sp, a.2.1, a.2.2.1, a.2.2.2.1, a.2.2.2.2, ks, nt, gv, se, tk, kk, sk, pl, ld) z.2 ∧ Rng bm sp a.2.1 se
theorem t29_eq (p6 row0 row : Nat → Int32) (i : Nat) (n : Int32) : L_X6_tick_29 p6 row0 i (n, row) = (if f_X6_goes row i = true then C_X6_tick_77 i (n, row) (if 0 ≤ row (6 + 7 * i + 1) + (it (L_X6_tick_4 row0) 0 8 p6) i then row (6 + 7 * i + 1) + (it (L_X6_tick_4 row0) 0 8 p6) i else (0 : Int32)) else (n, row)) := rfl
theorem t77_eq (row : Nat → Int32) (i : Nat) (n w : Int32) : C_X6_tick_77 i (n, row) w = C_X6_tick_99 i (n, row) (upd (upd row (6 + 7 * i + 2) (row (6 + 7 * i + 2) + w)) (6 + 7 * i + 5) ((upd row (6 + 7 * i + 2) (row (6 + 7 * i + 2) + w)) (6 + 7 * i + 5) + w)) := rfl
theorem t99_eq (row r : Nat → Int32) (i : Nat) (n : Int32) : C_X6_tick_99 i (n, row) r = (if r (6 + 7 * i + 2) < (1000 : Int32) then (n, r) else (n + (1 : Int32), upd (upd (upd r (6 + 7 * i + 2) (r (6 + 7 * i + 2) - (1000 : Int32))) (6 + 7 * i + 3) ((upd r (6 + 7 * i + 2) (r (6 + 7 * i + 2) - (1000 : Int32))) (6 + 7 * i + 3) - (1 : Int32))) (6 + 7 * i + 4) ((upd (upd r (6 + 7 * i + 2) (r (6 + 7 * i + 2) - (1000 : Int32))) (6 + 7 * i + 3) ((upd r (6 + 7 * i + 2) (r (6 + 7 * i + 2) - (1000 : Int32))) (6 + 7 * i + 3) - (1 : Int32))) (6 + 7 * i + 4) + (1 : Int32)))) := rfl
theorem g4_eq (sp p4 ph sg st wy : Nat → Int32) (i : Nat) (n : Int32) : L_X4_goOn_4 sp p4 i (n, ph, sg, st, wy) = ((if f_X4_goes sg i = true then (if (f_X4_strikesBy ph sg st wy i (if (0 : Int32) < sp i + p4 i then sp i + p4 i else (0 : Int32))).1 = true then n + (1 : Int32) else n) else n), (if f_X4_goes sg i = true then (f_X4_strikesBy ph sg st wy i (if (0 : Int32) < sp i + p4 i then sp i + p4 i else (0 : Int32))).2.1 else ph), (if f_X4_goes sg i = true then (f_X4_strikesBy ph sg st wy i (if (0 : Int32) < sp i + p4 i then sp i + p4 i else (0 : Int32))).2.2.1 else sg), (if f_X4_goes sg i = true then (f_X4_strikesBy ph sg st wy i (if (0 : Int32) < sp i + p4 i then sp i + p4 i else (0 : Int32))).2.2.2.1 else st), (if f_X4_goes sg i = true then (f_X4_strikesBy ph sg st wy i (if (0 : Int32) < sp i + p4 i then sp i + p4 i else (0 : Int32))).2.2.2.2 else wy)) := rfl
set_option maxHeartbeats 4000000 in
theorem r_goOn_step {p6 row0 p4 : Nat → Int32} {i : Nat} (hi : i < 8) (hq : (it (L_X6_tick_4 row0) 0 8 p6) i = p4 i) (hpr : -50 ≤ (p4 i).toInt ∧ (p4 i).toInt ≤ 50) (n : Int32) (h : Rel (bm, sp, ph, sg, st, wy, ks, nt, gv, se, tk, kk, sk, pl, ld) row) (hR : Rng bm sp ph se) : GP bm sp ks nt gv se tk kk sk pl ld (L_X4_goOn_4 sp p4 i (n, ph, sg, st, wy)) (L_X6_tick_29 p6 row0 i (n, row)) := by
  rw [g4_eq, t29_eq, r_goes h hi]
  by_cases g : f_X4_goes sg i = true
  · rw [if_pos g, if_pos g, if_pos g, if_pos g, if_pos g, if_pos g]
    rw [h.e1 hi, hq, way_eq]
    have hs := hR.2.1 i hi
    have hp := hR.2.2.1 i hi
    have ex : (sp i + p4 i).toInt = (sp i).toInt + (p4 i).toInt := add_toInt (by omega) (by omega)
    have hw : 0 ≤ (if (0 : Int32) < sp i + p4 i then sp i + p4 i else (0 : Int32)).toInt ∧ (if (0 : Int32) < sp i + p4 i then sp i + p4 i else (0 : Int32)).toInt ≤ 110 := by
      split
      · rename_i c
        have c := Int32.lt_iff_toInt_lt.mp c
        have z0 : (0 : Int32).toInt = 0 := rfl
        omega
      · have z0 : (0 : Int32).toInt = 0 := rfl
        omega
    generalize (if (0 : Int32) < sp i + p4 i then sp i + p4 i else (0 : Int32)) = w at hw ⊢
    rw [t77_eq, t99_eq]
    unfold f_X4_strikesBy
    rw [h.e2 hi]
    have h1 := h.clk2 hi (ph i + w)
    rw [h1.e5 hi]
    have h2 := h1.clk5 hi (wy i + w)
    have ep : upd ph i (ph i + w) i = ph i + w := pk_us
    have epi : (ph i + w).toInt = (ph i).toInt + w.toInt := add_toInt (by omega) (by omega)
    have eno : ∀ j, j ≠ i → upd ph i (ph i + w) j = ph j := fun j hj => pk_un hj
    generalize upd (upd row (6 + 7 * i + 2) (ph i + w)) (6 + 7 * i + 5) (wy i + w) = r2 at h2 ⊢
    generalize upd ph i (ph i + w) = ph2 at h2 ep eno ⊢
    generalize upd wy i (wy i + w) = wy2 at h2 ⊢
    rw [h2.e2 hi]
    have z3 : (1000 : Int32).toInt = 1000 := rfl
    by_cases c : ph2 i < 1000
    · have c' := Int32.lt_iff_toInt_lt.mp c
      have cn : ¬ (1000 : Int32) ≤ ph2 i := fun q => by have := Int32.le_iff_toInt_le.mp q; omega
      rw [if_pos c, if_neg cn]
      refine ⟨rfl, h2, hR.1, hR.2.1, fun j hj => ?_, hR.2.2.2⟩
      show 0 ≤ (ph2 j).toInt ∧ (ph2 j).toInt < 1000
      by_cases e : j = i
      · subst e
        rw [ep] at c' ⊢
        omega
      · rw [eno j e]
        exact hR.2.2.1 j hj
    · have c' : ¬ (ph2 i).toInt < (1000 : Int32).toInt := fun q => c (Int32.lt_iff_toInt_lt.mpr q)
      have cn : (1000 : Int32) ≤ ph2 i := Int32.le_iff_toInt_le.mpr (by omega)
      have h3 := h2.clk2 hi (ph2 i - 1000)
      have h4 := h3.clk3 hi (sg i - 1)
      have h5 := h4.clk4 hi (st i + 1)
      rw [if_neg c, if_pos cn, h3.e3 hi, h4.e4 hi]
      refine ⟨rfl, h5, hR.1, hR.2.1, fun j hj => ?_, hR.2.2.2⟩
      show 0 ≤ (upd ph2 i (ph2 i - 1000) j).toInt ∧ (upd ph2 i (ph2 i - 1000) j).toInt < 1000
      by_cases e : j = i
      · subst e
        have ep2 : (ph2 j).toInt = (ph j + w).toInt := by rw [ep]
        rw [pk_us, sub_toInt (by omega) (by omega)]
        omega
      · rw [pk_un e, eno j e]
        exact hR.2.2.1 j hj
  · rw [if_neg g, if_neg g, if_neg g, if_neg g, if_neg g, if_neg g]
    exact ⟨rfl, h, hR⟩
theorem r_goOn (h : Rel (bm, sp, ph, sg, st, wy, ks, nt, gv, se, tk, kk, sk, pl, ld) row) (hR : Rng bm sp ph se) {p4 p6 : Nat → Int32} (hq : ∀ i, i < 8 → (it (L_X6_tick_4 row) 0 8 p6) i = p4 i) (hpr : ∀ i, i < 8 → -50 ≤ (p4 i).toInt ∧ (p4 i).toInt ≤ 50) : GP bm sp ks nt gv se tk kk sk pl ld (it (L_X4_goOn_4 sp p4) 0 8 ((0 : Int32), ph, sg, st, wy)) (it (L_X6_tick_29 p6 row) 0 8 ((0 : Int32), row)) := by
  refine it_rel (P := GP bm sp ks nt gv se tk kk sk pl ld) 8 (fun i a z hi hr => ?_) 8 0 _ _ (by omega) ⟨rfl, h, hR⟩
  obtain ⟨a1, aph, asg, ast, awy⟩ := a
  obtain ⟨z1, z2⟩ := z
  obtain ⟨e, hr, hrg⟩ := hr
  have e : a1 = z1 := e
  subst e
  exact r_goOn_step hi (hq i hi) (hpr i hi) a1 hr hrg
theorem r_look (h : Rel (bm, sp, ph, sg, st, wy, ks, nt, gv, se, tk, kk, sk, pl, ld) row) (hR : Rng bm sp ph se) : Rel (bm, sp, ph, sg, st, wy, ks, it (L_X4_lookAtPairs_2 bm ph sg se) 0 8 nt, gv, se, tk, kk, sk, pl, ld) (it L_X6_tick_154 0 8 row) := by
  refine it_rel (P := fun (a z : Nat → Int32) => Rel (bm, sp, ph, sg, st, wy, ks, a, gv, se, tk, kk, sk, pl, ld) z) 8 (fun i a z hi hr => ?_) 8 0 _ _ (by omega) h
  unfold L_X4_lookAtPairs_2 L_X6_tick_154
  refine it_relB (P := fun (a z : Nat → Int32) => Rel (bm, sp, ph, sg, st, wy, ks, a, gv, se, tk, kk, sk, pl, ld) z) (i + 1) 8 (fun j a z hij hj hr => ?_) _ _ _ _ (by omega) (by omega) hr
  have hne : i ≠ j := by omega
  unfold L_X4_lookAtPairs_12 L_X6_tick_165 f_X4_setTicksNear f_X4_hangTogether
  rw [r_goes hr hi, r_goes hr hj, r_beam hr hi, r_beam hr hj, r_near hr hR.2.2.1 hi hj, hr.en hi hj hne]
  have key : (if (if f_X4_goes sg i = true then (if f_X4_goes sg j = true then (if (if bm i = bm j then true else false) = true then (if f_X4_areNear ph se i j = true then true else false) else false) else false) else false) = true then a (i * 8 + j) + 1 else (0 : Int32)) = (if (if f_X4_goes sg i = true then (if f_X4_goes sg j = true then (if bm i = bm j then true else false) else false) else false) = true then (if f_X4_areNear ph se i j = true then a (i * 8 + j) + 1 else (0 : Int32)) else (0 : Int32)) := by
    by_cases c1 : f_X4_goes sg i = true
    · by_cases c2 : f_X4_goes sg j = true
      · by_cases c3 : bm i = bm j
        · by_cases c4 : f_X4_areNear ph se i j = true
          · simp [c1, c2, c3, c4]
          · simp [c1, c2, c3, c4]
        · simp [c1, c2, c3]
      · simp [c1, c2]
    · simp [c1]
  rw [key]
  exact hr.nr hi hj hne _
/-- what ticks of both hold of each other -/
def TP (bm sp ks gv se : Nat → Int32) (kk : Int32) (pl ld : Nat → Int32) (a : Int32 × (Nat → Int32) × (Nat → Int32) × (Nat → Int32) × (Nat → Int32) × (Nat → Int32) × Int32 × Int32 × (Nat → Int32)) (z : Int32 × (Nat → Int32) × (Nat → Int32)) : Prop :=
  a.1 = z.1 ∧ Rel (bm, sp, a.2.1, a.2.2.1, a.2.2.2.1, a.2.2.2.2.1, ks, a.2.2.2.2.2.1, gv, se, a.2.2.2.2.2.2.1, kk, a.2.2.2.2.2.2.2.1, pl, ld) z.2.2 ∧ Rng bm sp a.2.1 se
theorem r_tick (h : Rel (bm, sp, ph, sg, st, wy, ks, nt, gv, se, tk, kk, sk, pl, ld) row) (hR : Rng bm sp ph se) (p4 p6 : Nat → Int32) : TP bm sp ks gv se kk pl ld (f_X4_tick bm sp ph sg st wy nt gv se tk sk p4) (f_X6_tick p6 row) := by
  have hp : ∀ i, i < 8 → it (L_X4_tick_2 bm ph sg gv se) 0 8 p4 i = f_X4_pullOf bm ph sg gv se i := fun i hi => (it_upd (f_X4_pullOf bm ph sg gv se) 8 0 p4 i).trans (if_pos (by omega))
  have hg := r_goOn h hR (p4 := it (L_X4_tick_2 bm ph sg gv se) 0 8 p4) (p6 := p6) (fun i hi => (((it_upd (f_X6_pull row) 8 0 p6 i).trans (if_pos (by omega))).trans (r_pull h hR hi)).trans (hp i hi).symm) (fun i hi => by rw [hp i hi]; exact pull_rng hR i)
  unfold TP f_X4_tick f_X6_tick f_X4_goOn f_X4_lookAtPairs
  generalize it (L_X4_goOn_4 sp (it (L_X4_tick_2 bm ph sg gv se) 0 8 p4)) 0 8 ((0 : Int32), ph, sg, st, wy) = A at hg ⊢
  generalize it (L_X6_tick_29 p6 row) 0 8 ((0 : Int32), row) = B at hg ⊢
  obtain ⟨A1, aph, asg, ast, awy⟩ := A
  obtain ⟨B1, B2⟩ := B
  obtain ⟨e, hr, hrg⟩ := hg
  have e : A1 = B1 := e
  subst e
  have hl := r_look hr hrg
  dsimp only at hl hrg ⊢
  generalize it (L_X4_lookAtPairs_2 bm aph asg se) 0 8 nt = nt2 at hl ⊢
  generalize it L_X6_tick_154 0 8 B2 = r2 at hl ⊢
  refine ⟨rfl, ?_, hrg⟩
  rw [hl.et]
  have h1 := hl.tk (tk + 1)
  rw [h1.eu]
  by_cases c : A1 ≤ 0
  · rw [if_pos c, if_pos c]
    have h2 := h1.sk (sk + bI false)
    rw [show sk + bI false = sk from Int32.add_zero sk] at h2 ⊢
    exact h2
  · rw [if_neg c, if_neg c]
    exact h1.sk (sk + 1)
theorem r_ticks (h : Rel (bm, sp, ph, sg, st, wy, ks, nt, gv, se, tk, kk, sk, pl, ld) row) (hR : Rng bm sp ph se) (p4 p6 : Nat → Int32) (n : Int32) : TP bm sp ks gv se kk pl ld (f_X4_letPass bm sp ph sg st wy nt gv se tk sk p4 n) (f_X6_goTicks p6 row n) := by
  unfold f_X4_letPass f_X6_goTicks
  refine it_rel (P := TP bm sp ks gv se kk pl ld) n.toNatClampNeg (fun i a z _ hr => ?_) _ 0 _ _ (by omega) ⟨rfl, h, hR⟩
  obtain ⟨a1, aph, asg, ast, awy, ant, atk, ask, apl⟩ := a
  obtain ⟨z1, z2, z3⟩ := z
  obtain ⟨e, hr, hrg⟩ := hr
  have e : a1 = z1 := e
  subst e
  have ht := r_tick hr hrg apl z2
  unfold L_X4_letPass_4 L_X6_goTicks_5
  dsimp only
  obtain ⟨e1, h1, h2⟩ := ht
  exact ⟨congrArg (fun v => a1 + v) e1, h1, h2⟩
end TICK
