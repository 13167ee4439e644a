/-! beams, clocks, pairs, counts as both tell them -/
section BEAMS
variable {bm sp ph sg st wy ks nt gv se : Nat → Int32} {tk kk sk : Int32} {pl ld : Nat → Int32} {row : Nat → Int32}
theorem hang_is {k : Nat} {b : Nat} (bm : Nat → Int32) : (if (if bm k = nI b then true else false) = true then true else false) = f_X4_hangsOn bm k (nI b) := by
  unfold f_X4_hangsOn
  by_cases c : bm k = nI b
  · rw [if_pos c]
    rfl
  · rw [if_neg c]
    rfl
theorem r_is (h : Rel (bm, sp, ph, sg, st, wy, ks, nt, gv, se, tk, kk, sk, pl, ld) row) {k : Nat} (hk : k < 8) (b : Nat) : (if f_X6_beamOf row k = nI b then true else false) = f_X4_hangsOn bm k (nI b) := by
  rw [r_beam h hk]
  rfl
theorem r_hang (h : Rel (bm, sp, ph, sg, st, wy, ks, nt, gv, se, tk, kk, sk, pl, ld) row) (b : Nat) : (it (L_X6_tellBeam_14 row b) 0 8 ((0 : Int32), (0 : Int32), (0 : Int32), (0 : Int32))).2.2.2 = f_X4_maskOfBeam bm (nI b) := by
  unfold f_X4_maskOfBeam
  refine it_rel (P := fun (x : Int32 × Int32 × Int32 × Int32) (y : Int32) => x.2.2.2 = y) 8 (fun i x y hi hxy => ?_) 8 0 _ _ (by omega) rfl
  subst hxy
  unfold L_X6_tellBeam_14 L_X4_maskOfBeam_4
  dsimp only
  rw [r_is h hi]
  by_cases c : f_X4_hangsOn bm i (nI b) = true
  · rw [if_pos c, if_pos c]
  · rw [if_neg c, if_neg c, Int32.or_zero]
theorem r_hgo (h : Rel (bm, sp, ph, sg, st, wy, ks, nt, gv, se, tk, kk, sk, pl, ld) row) (b : Nat) : (it (L_X6_tellBeam_14 row b) 0 8 ((0 : Int32), (0 : Int32), (0 : Int32), (0 : Int32))).2.2.1 = f_X4_maskOfBeam bm (nI b) &&& f_X4_goingMask sg := by
  have e : (it (L_X6_tellBeam_14 row b) 0 8 ((0 : Int32), (0 : Int32), (0 : Int32), (0 : Int32))).2.2.1 = it (fun k r => r ||| (if (f_X4_hangsOn bm k (nI b) && f_X4_goes sg k) = true then ((1 : Int32) <<< ((nI k) &&& 31)) else (0 : Int32))) 0 8 0 := by
    refine it_rel (P := fun (x : Int32 × Int32 × Int32 × Int32) (y : Int32) => x.2.2.1 = y) 8 (fun i x y hi hxy => ?_) 8 0 _ _ (by omega) rfl
    subst hxy
    unfold L_X6_tellBeam_14
    dsimp only
    rw [r_is h hi, r_goes h hi]
    cases f_X4_hangsOn bm i (nI b)
    · rfl
    · cases f_X4_goes sg i <;> rfl
  rw [e]
  refine bt_ext (fun j => ?_)
  rw [bt_it (fun k => f_X4_hangsOn bm k (nI b) && f_X4_goes sg k) 8 0 0 j (by omega), bt_0, Bool.false_or, bt_and, bt_beam, bt_going]
  by_cases c : j < 8
  · rw [decide_eq_true (show 0 ≤ j ∧ j < 0 + 8 by omega), decide_eq_true c]
    simp
  · rw [decide_eq_false (show ¬ (0 ≤ j ∧ j < 0 + 8) by omega), decide_eq_false c]
    simp
theorem r_hsum (h : Rel (bm, sp, ph, sg, st, wy, ks, nt, gv, se, tk, kk, sk, pl, ld) row) (hR : Rng bm sp ph se) (b : Nat) : (it (L_X6_tellBeam_14 row b) 0 8 ((0 : Int32), (0 : Int32), (0 : Int32), (0 : Int32))).2.1 = f_X4_pullsOfBeam bm ph sg gv se (nI b) := by
  unfold f_X4_pullsOfBeam
  refine it_rel (P := fun (x : Int32 × Int32 × Int32 × Int32) (y : Int32) => x.2.1 = y) 8 (fun i x y hi hxy => ?_) 8 0 _ _ (by omega) rfl
  subst hxy
  unfold L_X6_tellBeam_14 L_X4_pullsOfBeam_4
  dsimp only
  rw [r_is h hi, r_pull h hR hi]
  by_cases c : f_X4_hangsOn bm i (nI b) = true
  · rw [if_pos c, if_pos c]
  · rw [if_neg c, if_neg c, Int32.add_zero]
theorem isIn_bg (bm sg : Nat → Int32) (b : Int32) {i : Nat} (hi : i < 8) : f_X4_isIn (f_X4_maskOfBeam bm b &&& f_X4_goingMask sg) i = (f_X4_hangsOn bm i b && f_X4_goes sg i) := by
  rw [isIn_bt _ hi, bt_and, bt_beam, bt_going, decide_eq_true hi, Bool.true_and, Bool.true_and]
theorem r_wide (h : Rel (bm, sp, ph, sg, st, wy, ks, nt, gv, se, tk, kk, sk, pl, ld) row) (hR : Rng bm sp ph se) (b : Nat) : (it (L_X6_tellBeam_14 row b) 0 8 ((0 : Int32), (0 : Int32), (0 : Int32), (0 : Int32))).1 = f_X4_widestGap bm ph sg (nI b) ∧ 0 ≤ (f_X4_widestGap bm ph sg (nI b)).toInt ∧ (f_X4_widestGap bm ph sg (nI b)).toInt ≤ 500 := by
  unfold f_X4_widestGap
  refine it_rel (P := fun (x : Int32 × Int32 × Int32 × Int32) (y : Int32) => x.1 = y ∧ 0 ≤ y.toInt ∧ y.toInt ≤ 500) 8 (fun i x y hi hxy => ?_) 8 0 _ _ (by omega) ⟨rfl, by decide, by decide⟩
  obtain ⟨e, hy⟩ := hxy
  subst e
  unfold L_X6_tellBeam_14 L_X4_widestGap_16
  dsimp only
  refine it_relB (P := fun (x y : Int32) => x = y ∧ 0 ≤ y.toInt ∧ y.toInt ≤ 500) (i + 1) 8 (fun j x y hij hj hxy => ?_) _ _ _ _ (by omega) (by omega) ⟨rfl, hy⟩
  obtain ⟨e, hy⟩ := hxy
  subst e
  unfold L_X6_tellBeam_116 L_X4_widestGap_29
  rw [r_is h hi, r_beam h hj, r_goes h hi, r_goes h hj, r_gap h hi hj, size_eq, isIn_bg _ _ _ hi, isIn_bg _ _ _ hj]
  have ej : f_X4_hangsOn bm j (nI b) = if bm j = nI b then true else false := rfl
  have g := gap_ge hR.2.2.1 hi hj
  have ga := abs_toInt (g := f_X4_gapFrom ph i j) (by omega)
  have hr : 0 ≤ (if 0 ≤ f_X4_gapFrom ph i j then f_X4_gapFrom ph i j else 0 - f_X4_gapFrom ph i j).toInt ∧ (if 0 ≤ f_X4_gapFrom ph i j then f_X4_gapFrom ph i j else 0 - f_X4_gapFrom ph i j).toInt ≤ 500 := by
    rw [ga]
    split <;> omega
  generalize (if 0 ≤ f_X4_gapFrom ph i j then f_X4_gapFrom ph i j else 0 - f_X4_gapFrom ph i j) = v at hr ⊢
  have zz : (0 : Int32) ≤ x := Int32.le_iff_toInt_le.mpr (by have z0 : (0 : Int32).toInt = 0 := rfl; omega)
  have k1 : (if v ≤ x then x else v) = (if x < v then v else x) := by
    by_cases c : x < v
    · rw [if_pos c, if_neg (fun q => by have := Int32.le_iff_toInt_le.mp q; have := Int32.lt_iff_toInt_lt.mp c; omega)]
    · rw [if_neg c, if_pos (Int32.le_iff_toInt_le.mpr (by have : ¬ x.toInt < v.toInt := fun q => c (Int32.lt_iff_toInt_lt.mpr q); omega))]
  have k2 : 0 ≤ (if x < v then v else x).toInt ∧ (if x < v then v else x).toInt ≤ 500 := by split <;> assumption
  cases c1 : f_X4_hangsOn bm i (nI b)
  · simp only [Bool.false_and, Bool.false_eq_true, if_false, if_pos zz]
    exact ⟨trivial, hy⟩
  · cases c2 : f_X4_goes sg i
    · simp only [Bool.false_and, Bool.and_false, Bool.false_eq_true, if_false, ite_self, if_pos zz]
      exact ⟨trivial, hy⟩
    · cases c3 : f_X4_goes sg j
      · simp only [Bool.and_false, Bool.false_eq_true, if_false, ite_self, if_pos zz]
        exact ⟨trivial, hy⟩
      · by_cases c4 : bm j = nI b
        · have c5 : f_X4_hangsOn bm j (nI b) = true := by rw [ej, if_pos c4]
          rw [c5]
          simp only [c4, Bool.and_self, if_true, k1]
          exact ⟨trivial, k2⟩
        · have c5 : f_X4_hangsOn bm j (nI b) = false := by rw [ej, if_neg c4]
          rw [c5]
          simp only [c4, Bool.false_and, Bool.false_eq_true, if_false, ite_self, if_pos zz]
          exact ⟨trivial, hy⟩
theorem r_tellBeam (h : Rel (bm, sp, ph, sg, st, wy, ks, nt, gv, se, tk, kk, sk, pl, ld) row) (hR : Rng bm sp ph se) {b : Nat} (hb : b < 3) (w : Int32) : f_X6_tellBeam row b w = f_X4_numberOfBeam bm ph sg gv se (nI b) w := by
  unfold f_X6_tellBeam f_X4_numberOfBeam
  rw [r_hang h b, r_hgo h b, r_hsum h hR b, (r_wide h hR b).1, h.eg hb, nI_clamp (by omega)]
theorem r_tellClock (h : Rel (bm, sp, ph, sg, st, wy, ks, nt, gv, se, tk, kk, sk, pl, ld) row) (hR : Rng bm sp ph se) (grp : Nat → Int32) {k : Nat} (hk : k < 8) {w : Nat} (hw : w < 11) : (f_X6_tellClock row grp k w).1 = f_X4_numberOfClock bm sp ph sg st wy ks nt gv se k (nI w) := by
  have hc : w = 0 ∨ w = 1 ∨ w = 2 ∨ w = 3 ∨ w = 4 ∨ w = 5 ∨ w = 6 ∨ w = 7 ∨ w = 8 ∨ w = 9 ∨ w = 10 := by omega
  unfold f_X6_tellClock f_X4_numberOfClock
  rcases hc with e | e | e | e | e | e | e | e | e | e | e <;> subst e
  · rw [if_neg (show ¬ nI 0 = 5 by decide), if_neg (show ¬ nI 0 = 6 by decide), if_neg (show ¬ nI 0 = 7 by decide), if_neg (show ¬ nI 0 = 8 by decide), if_neg (show ¬ nI 0 = 9 by decide), if_neg (show ¬ nI 0 = 10 by decide), if_pos (show nI 0 = 0 from rfl)]
    exact h.e0 hk
  · rw [if_neg (show ¬ nI 1 = 5 by decide), if_neg (show ¬ nI 1 = 6 by decide), if_neg (show ¬ nI 1 = 7 by decide), if_neg (show ¬ nI 1 = 8 by decide), if_neg (show ¬ nI 1 = 9 by decide), if_neg (show ¬ nI 1 = 10 by decide), if_neg (show ¬ nI 1 = 0 by decide), if_pos (show nI 1 = 1 from rfl)]
    exact h.e1 hk
  · rw [if_neg (show ¬ nI 2 = 5 by decide), if_neg (show ¬ nI 2 = 6 by decide), if_neg (show ¬ nI 2 = 7 by decide), if_neg (show ¬ nI 2 = 8 by decide), if_neg (show ¬ nI 2 = 9 by decide), if_neg (show ¬ nI 2 = 10 by decide), if_neg (show ¬ nI 2 = 0 by decide), if_neg (show ¬ nI 2 = 1 by decide), if_pos (show nI 2 = 2 from rfl)]
    exact h.e2 hk
  · rw [if_neg (show ¬ nI 3 = 5 by decide), if_neg (show ¬ nI 3 = 6 by decide), if_neg (show ¬ nI 3 = 7 by decide), if_neg (show ¬ nI 3 = 8 by decide), if_neg (show ¬ nI 3 = 9 by decide), if_neg (show ¬ nI 3 = 10 by decide), if_neg (show ¬ nI 3 = 0 by decide), if_neg (show ¬ nI 3 = 1 by decide), if_neg (show ¬ nI 3 = 2 by decide), if_pos (show nI 3 = 3 from rfl)]
    exact h.e3 hk
  · rw [if_neg (show ¬ nI 4 = 5 by decide), if_neg (show ¬ nI 4 = 6 by decide), if_neg (show ¬ nI 4 = 7 by decide), if_neg (show ¬ nI 4 = 8 by decide), if_neg (show ¬ nI 4 = 9 by decide), if_neg (show ¬ nI 4 = 10 by decide), if_neg (show ¬ nI 4 = 0 by decide), if_neg (show ¬ nI 4 = 1 by decide), if_neg (show ¬ nI 4 = 2 by decide), if_neg (show ¬ nI 4 = 3 by decide), if_pos (show nI 4 = 4 from rfl)]
    exact h.e4 hk
  · rw [if_pos (show nI 5 = 5 from rfl), if_neg (show ¬ nI 5 = 0 by decide), if_neg (show ¬ nI 5 = 1 by decide), if_neg (show ¬ nI 5 = 2 by decide), if_neg (show ¬ nI 5 = 3 by decide), if_neg (show ¬ nI 5 = 4 by decide), if_pos (show nI 5 = 5 from rfl)]
    exact r_pull h hR hk
  · rw [if_neg (show ¬ nI 6 = 5 by decide), if_pos (show nI 6 = 6 from rfl), if_neg (show ¬ nI 6 = 0 by decide), if_neg (show ¬ nI 6 = 1 by decide), if_neg (show ¬ nI 6 = 2 by decide), if_neg (show ¬ nI 6 = 3 by decide), if_neg (show ¬ nI 6 = 4 by decide), if_neg (show ¬ nI 6 = 5 by decide), if_pos (show nI 6 = 6 from rfl)]
    exact h.e5 hk
  · rw [if_neg (show ¬ nI 7 = 5 by decide), if_neg (show ¬ nI 7 = 6 by decide), if_pos (show nI 7 = 7 from rfl), if_neg (show ¬ nI 7 = 0 by decide), if_neg (show ¬ nI 7 = 1 by decide), if_neg (show ¬ nI 7 = 2 by decide), if_neg (show ¬ nI 7 = 3 by decide), if_neg (show ¬ nI 7 = 4 by decide), if_neg (show ¬ nI 7 = 5 by decide), if_neg (show ¬ nI 7 = 6 by decide), if_pos (show nI 7 = 7 from rfl)]
    exact h.e6 hk
  · rw [if_neg (show ¬ nI 8 = 5 by decide), if_neg (show ¬ nI 8 = 6 by decide), if_neg (show ¬ nI 8 = 7 by decide), if_pos (show nI 8 = 8 from rfl), if_neg (show ¬ nI 8 = 0 by decide), if_neg (show ¬ nI 8 = 1 by decide), if_neg (show ¬ nI 8 = 2 by decide), if_neg (show ¬ nI 8 = 3 by decide), if_neg (show ¬ nI 8 = 4 by decide), if_neg (show ¬ nI 8 = 5 by decide), if_neg (show ¬ nI 8 = 6 by decide), if_neg (show ¬ nI 8 = 7 by decide), if_pos (show nI 8 = 8 from rfl)]
    exact r_mask h hk
  · rw [if_neg (show ¬ nI 9 = 5 by decide), if_neg (show ¬ nI 9 = 6 by decide), if_neg (show ¬ nI 9 = 7 by decide), if_neg (show ¬ nI 9 = 8 by decide), if_pos (show nI 9 = 9 from rfl), if_neg (show ¬ nI 9 = 0 by decide), if_neg (show ¬ nI 9 = 1 by decide), if_neg (show ¬ nI 9 = 2 by decide), if_neg (show ¬ nI 9 = 3 by decide), if_neg (show ¬ nI 9 = 4 by decide), if_neg (show ¬ nI 9 = 5 by decide), if_neg (show ¬ nI 9 = 6 by decide), if_neg (show ¬ nI 9 = 7 by decide), if_neg (show ¬ nI 9 = 8 by decide), if_pos (show nI 9 = 9 from rfl)]
    exact r_low h grp hk
  · rw [if_neg (show ¬ nI 10 = 5 by decide), if_neg (show ¬ nI 10 = 6 by decide), if_neg (show ¬ nI 10 = 7 by decide), if_neg (show ¬ nI 10 = 8 by decide), if_neg (show ¬ nI 10 = 9 by decide), if_pos (show nI 10 = 10 from rfl), if_neg (show ¬ nI 10 = 0 by decide), if_neg (show ¬ nI 10 = 1 by decide), if_neg (show ¬ nI 10 = 2 by decide), if_neg (show ¬ nI 10 = 3 by decide), if_neg (show ¬ nI 10 = 4 by decide), if_neg (show ¬ nI 10 = 5 by decide), if_neg (show ¬ nI 10 = 6 by decide), if_neg (show ¬ nI 10 = 7 by decide), if_neg (show ¬ nI 10 = 8 by decide), if_neg (show ¬ nI 10 = 9 by decide)]
    exact r_set h grp hk
theorem r_why (h : Rel (bm, sp, ph, sg, st, wy, ks, nt, gv, se, tk, kk, sk, pl, ld) row) (hR : Rng bm sp ph se) {k o : Nat} (hk : k < 8) (ho : o < 8) (hne : k ≠ o) : f_X6_whyNot row k o = f_X4_whyNotLocked bm ph sg nt se k o := by
  unfold f_X6_whyNot f_X4_whyNotLocked f_X4_hangTogether
  rw [r_locked h hk ho hne, r_goes h hk, r_goes h ho, r_beam h hk, r_beam h ho, r_near h hR.2.2.1 hk ho]
  by_cases c : bm k = bm o
  · rw [if_pos c, if_pos c, if_pos rfl]
  · rw [if_neg c, if_neg c, if_neg Bool.false_ne_true]
theorem r_tellPair (h : Rel (bm, sp, ph, sg, st, wy, ks, nt, gv, se, tk, kk, sk, pl, ld) row) (hR : Rng bm sp ph se) {k o : Nat} (hk : k < 8) (ho : o < 8) (hne : k ≠ o) (w : Int32) : f_X6_tellPair row k o w = f_X4_numberOfPair bm ph sg nt se k o w := by
  unfold f_X6_tellPair f_X4_numberOfPair
  rw [r_gap h hk ho, h.en hk ho hne, r_why h hR hk ho hne]
theorem r_tellCount (h : Rel (bm, sp, ph, sg, st, wy, ks, nt, gv, se, tk, kk, sk, pl, ld) row) (states : Nat) (grp l : Nat → Int32) (w : Int32) : (f_X6_tellCount states row grp w).1 = (f_X4_numberOfAll sg st nt se tk kk sk l w (nI states)).1 := by
  unfold f_X6_tellCount f_X4_numberOfAll
  by_cases c0 : w = 0
  · rw [if_pos c0, if_pos c0]; exact h.et
  rw [if_neg c0, if_neg c0]
  by_cases c1 : w = 1
  · rw [if_pos c1, if_pos c1]; exact r_strikes h
  rw [if_neg c1, if_neg c1]
  by_cases c2 : w = 2
  · rw [if_pos c2, if_pos c2]; exact r_going h
  rw [if_neg c2, if_neg c2]
  by_cases c3 : w = 3
  · rw [if_pos c3, if_pos c3]; exact r_lpairs h
  rw [if_neg c3, if_neg c3]
  by_cases c4 : w = 4
  · rw [if_pos c4, if_pos c4]; exact r_groups h grp l
  rw [if_neg c4, if_neg c4]
  by_cases c5 : w = 5
  · rw [if_pos c5, if_pos c5]; exact r_walk h
  rw [if_neg c5, if_neg c5]
  by_cases c6 : w = 6
  · rw [if_pos c6, if_pos c6]; exact r_great h grp
  rw [if_neg c6, if_neg c6]
  by_cases c7 : w = 7
  · rw [if_pos c7, if_pos c7]; exact h.ek
  rw [if_neg c7, if_neg c7]
  by_cases c8 : w = 8
  · rw [if_pos c8, if_pos c8]; exact h.eu
  rw [if_neg c8, if_neg c8]
/-! shares -/
theorem r_step (h : Rel (bm, sp, ph, sg, st, wy, ks, nt, gv, se, tk, kk, sk, pl, ld) row) (grp : Nat → Int32) : (f_X6_stepShare row grp).1 = f_X5_stepShare nt se := by
  unfold f_X6_stepShare f_X5_stepShare
  rw [r_great h grp]
theorem gaps_it (bm ph sg : Nat → Int32) : it (L_X5_meanGap_4 bm ph sg) 0 3 (0 : Int32) = f_X4_widestGap bm ph sg (nI 0) + f_X4_widestGap bm ph sg (nI 1) + f_X4_widestGap bm ph sg (nI 2) := by
  rw [it_s, it_s, it_s, it_0]
  unfold L_X5_meanGap_4
  rw [Int32.zero_add]
theorem r_gaps (h : Rel (bm, sp, ph, sg, st, wy, ks, nt, gv, se, tk, kk, sk, pl, ld) row) (hR : Rng bm sp ph se) : f_X6_allGaps row = it (L_X5_meanGap_4 bm ph sg) 0 3 (0 : Int32) := by
  rw [gaps_it]
  unfold f_X6_allGaps
  rw [r_tellBeam h hR (by omega), r_tellBeam h hR (by omega), r_tellBeam h hR (by omega)]
  rfl
theorem gaps_rng (h : Rel (bm, sp, ph, sg, st, wy, ks, nt, gv, se, tk, kk, sk, pl, ld) row) (hR : Rng bm sp ph se) : ∃ n, n ≤ 1500 ∧ it (L_X5_meanGap_4 bm ph sg) 0 3 (0 : Int32) = nI n := by
  rw [gaps_it]
  have h0 := (r_wide h hR 0).2
  have h1 := (r_wide h hR 1).2
  have h2 := (r_wide h hR 2).2
  generalize f_X4_widestGap bm ph sg (nI 0) = a at h0 ⊢
  generalize f_X4_widestGap bm ph sg (nI 1) = b at h1 ⊢
  generalize f_X4_widestGap bm ph sg (nI 2) = c at h2 ⊢
  have e1 : (a + b).toInt = a.toInt + b.toInt := add_toInt (by omega) (by omega)
  have e2 : (a + b + c).toInt = a.toInt + b.toInt + c.toInt := by rw [add_toInt (by omega) (by omega), e1]
  refine ⟨(a + b + c).toInt.toNat, by omega, Int32.toInt_inj.mp ?_⟩
  rw [nI_toInt (by omega)]
  omega
theorem r_mean (h : Rel (bm, sp, ph, sg, st, wy, ks, nt, gv, se, tk, kk, sk, pl, ld) row) (hR : Rng bm sp ph se) : (f_X6_meanGap row).1 = f_X5_meanGap bm ph sg := by
  unfold f_X6_meanGap f_X5_meanGap
  rw [r_gaps h hR]
theorem step_ok (h : Rel (bm, sp, ph, sg, st, wy, ks, nt, gv, se, tk, kk, sk, pl, ld) row) : vf_okD (f_X5_stepShare nt se) := by
  obtain ⟨n, h1, h2, h3⟩ := great_rng h
  exact ⟨n, h1, h2, by unfold f_X5_stepShare; rw [h3]⟩
theorem mean_ok (h : Rel (bm, sp, ph, sg, st, wy, ks, nt, gv, se, tk, kk, sk, pl, ld) row) (hR : Rng bm sp ph se) : vf_okF (f_X5_meanGap bm ph sg) := by
  obtain ⟨n, h1, h2⟩ := gaps_rng h hR
  exact ⟨n, h1, by unfold f_X5_meanGap; rw [h2]⟩
end BEAMS
