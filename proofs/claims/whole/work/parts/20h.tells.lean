/-! masks, numbers of groups, beams: what class and reference tell -/
section TELLS
variable {bm sp ph sg st wy ks nt gv se : Nat → Int32} {tk kk sk : Int32} {pl ld : Nat → Int32} {row : Nat → Int32}
theorem bI_bt (b : Bool) : (if b = true then (1 : Int32) else 0) = bI b := by cases b <;> rfl
theorem bI_self (b : Bool) : bI (if b = true then true else false) = bI b := by cases b <;> rfl
theorem locked_no (row : Nat → Int32) (k : Nat) : f_X6_isLocked row k k = false := by
  unfold f_X6_isLocked
  rw [if_pos rfl]
theorem r_mask (h : Rel (bm, sp, ph, sg, st, wy, ks, nt, gv, se, tk, kk, sk, pl, ld) row) {k : Nat} (hk : k < 8) : f_X6_lockedSet row k = f_X4_lockedMask nt se k := by
  unfold f_X6_lockedSet f_X4_lockedMask
  refine it_cg 0 8 (fun i a _ hi => ?_) 8 0 _ (by omega) (by omega)
  unfold L_X6_lockedSet_4 L_X4_lockedMask_4
  by_cases c : i = k
  · subst c
    rw [locked_no, if_pos rfl, if_neg (by decide), Int32.or_zero]
  · rw [if_neg c, r_locked h hk hi (fun q => c q.symm)]
    by_cases c2 : f_X4_areLocked nt se k i = true
    · rw [if_pos c2, if_pos c2]
    · rw [if_neg c2, if_neg c2, Int32.or_zero]
theorem bt_lockedSet (row : Nat → Int32) (k j : Nat) : Bt (f_X6_lockedSet row k) j = (decide (j < 8) && f_X6_isLocked row k j) := by
  have h := bt_it (fun i => f_X6_isLocked row k i) 8 0 0 j (by omega)
  rw [bt_0, Bool.false_or] at h
  refine h.trans ?_
  congr 1
  exact decide_eq_decide.mpr (by omega)
theorem bt_mask (h : Rel (bm, sp, ph, sg, st, wy, ks, nt, gv, se, tk, kk, sk, pl, ld) row) : ∀ i j, i < 8 → Bt (f_X4_lockedMask nt se i) j = (decide (j < 8) && f_X6_isLocked row i j) := fun i j hi => by
  rw [← r_mask h hi]
  exact bt_lockedSet row i j
theorem gm_eq (nt se : Nat → Int32) (k : Nat) : f_X4_groupMask nt se k = it (fun _ s => rnd (f_X4_lockedMask nt se) s) 1 7 ((1 : Int32) <<< ((nI k) &&& 31)) := by
  unfold f_X4_groupMask
  refine it_cg 1 8 (fun i a _ _ => ?_) 7 1 _ (by omega) (by omega)
  unfold L_X4_groupMask_6 rnd
  refine it_cg 0 8 (fun j s _ hj => ?_) 8 0 _ (by omega) (by omega)
  unfold L_X4_groupMask_15 stp
  rw [isIn_bt s hj]
theorem bt_gm (h : Rel (bm, sp, ph, sg, st, wy, ks, nt, gv, se, tk, kk, sk, pl, ld) row) {k : Nat} (hk : k < 8) (j : Nat) : Bt (f_X4_groupMask nt se k) j = true ↔ j < 8 ∧ Conn (f_X6_isLocked row) k j := by
  rw [gm_eq]
  exact clo (bt_mask h) hk 7 1 (by omega) _ (bt_one hk) j
theorem bt_eq {a b : Int32} (h : ∀ j, Bt a j = true ↔ Bt b j = true) : a = b := bt_ext (fun j => Bool.eq_iff_iff.mpr (h j))
theorem r_walk1 (h : Rel (bm, sp, ph, sg, st, wy, ks, nt, gv, se, tk, kk, sk, pl, ld) row) {k : Nat} (hk : k < 8) : it (L_X6_walked_31 row) 0 8 ((1 : Int32) <<< ((nI k) &&& 31)) = f_X4_groupMask nt se k := by
  have e : it (L_X6_walked_31 row) 0 8 ((1 : Int32) <<< ((nI k) &&& 31)) = it (fun _ s => rnd (f_X6_lockedSet row) s) 0 8 ((1 : Int32) <<< ((nI k) &&& 31)) := by
    refine it_cg 0 8 (fun i a _ _ => ?_) 8 0 _ (by omega) (by omega)
    unfold L_X6_walked_31 rnd
    refine it_cg 0 8 (fun j s _ hj => ?_) 8 0 _ (by omega) (by omega)
    unfold L_X6_walked_41 stp
    by_cases c : Bt s j = true
    · rw [if_pos c]
      unfold f_X6_lockedSet
      refine it_rel (P := fun (x y : Int32) => x = s ||| y) 8 (fun o x y ho hxy => ?_) 8 0 s 0 (by omega) Int32.or_zero.symm
      unfold L_X6_walked_51 L_X6_lockedSet_4
      have cb : Bt x j = true := by rw [hxy, bt_or, c]; rfl
      rw [sh_bt x hj, if_pos cb, if_pos rfl, hxy, Int32.or_assoc]
    · rw [if_neg c]
      refine it_inv (P := fun x => x = s) 8 (fun o x ho hx => ?_) 8 0 s (by omega) rfl
      unfold L_X6_walked_51
      rw [hx, sh_bt s hj, if_neg c, if_neg (by decide), Int32.or_zero]
  rw [e]
  exact bt_eq (fun j => (clo (A := f_X6_isLocked row) (fun i j _ => bt_lockedSet row i j) hk 8 0 (by omega) _ (bt_one hk) j).trans (bt_gm h hk j).symm)
theorem r_walk (h : Rel (bm, sp, ph, sg, st, wy, ks, nt, gv, se, tk, kk, sk, pl, ld) row) : f_X6_walked row = f_X4_groupsByWalking nt se := by
  unfold f_X6_walked f_X4_groupsByWalking
  have g := it_rel (f := L_X6_walked_6 row) (g := L_X4_groupsByWalking_6 nt se) (P := fun (x y : Int32 × Int32) => x.1 = y.2 ∧ x.2 = y.1) 8 (fun i x y hi hxy => ?_) 8 0 ((0 : Int32), (0 : Int32)) ((0 : Int32), (0 : Int32)) (by omega) ⟨rfl, rfl⟩
  · exact g.1
  · obtain ⟨x1, x2⟩ := x
    obtain ⟨y1, y2⟩ := y
    have e1 : x1 = y2 := hxy.1
    have e2 : x2 = y1 := hxy.2
    subst e1
    subst e2
    unfold L_X6_walked_6 L_X4_groupsByWalking_6
    dsimp only
    rw [sh_bt x2 hi, isIn_bt x2 hi, r_walk1 h hi]
    by_cases c : Bt x2 i = true
    · rw [if_pos c, if_pos c, if_pos c, if_neg (by decide), if_neg (by decide)]
      exact ⟨rfl, rfl⟩
    · rw [if_neg c, if_neg c, if_neg c, if_pos rfl, if_pos rfl]
      exact ⟨rfl, rfl⟩
theorem r_set (h : Rel (bm, sp, ph, sg, st, wy, ks, nt, gv, se, tk, kk, sk, pl, ld) row) (grp : Nat → Int32) {k : Nat} (hk : k < 8) : (f_X6_groupSet grp row k).1 = f_X4_groupMask nt se k := by
  obtain ⟨g, hg, hz, hc⟩ := r_lay h
  have e : (f_X6_groupSet grp row k).1 = it (fun i r => r ||| (if (decide (g i = g k)) = true then ((1 : Int32) <<< ((nI i) &&& 31)) else (0 : Int32))) 0 8 0 := by
    unfold f_X6_groupSet
    refine it_cg 0 8 (fun i a _ hi => ?_) 8 0 _ (by omega) (by omega)
    unfold L_X6_groupSet_10
    rw [hz grp i hi, hz grp k hk]
    have l1 := (hg.1 i hi).1
    have l2 := (hg.1 k hk).1
    by_cases c : g i = g k
    · rw [if_pos (by rw [c]), if_pos (decide_eq_true c)]
    · rw [if_neg (fun q => c ((nI_eq (by omega) (by omega)).mp q)), if_neg (fun q => c (of_decide_eq_true q))]
  rw [e]
  refine bt_eq (fun j => ?_)
  rw [bt_it _ 8 0 0 j (by omega), bt_0, Bool.false_or, bt_gm h hk j]
  simp only [Bool.and_eq_true, decide_eq_true_eq]
  constructor
  · intro q
    exact ⟨by omega, (hg.2 k j hk (by omega)).mp q.2.symm⟩
  · intro q
    exact ⟨by omega, ((hg.2 k j hk q.1).mpr q.2).symm⟩
theorem r_groups (h : Rel (bm, sp, ph, sg, st, wy, ks, nt, gv, se, tk, kk, sk, pl, ld) row) (grp l : Nat → Int32) : (f_X6_groups grp row).1 = (f_X4_groupsByJoining nt se l).1 := by
  obtain ⟨g, hg, hz, hc⟩ := r_lay h
  rw [hc l]
  unfold f_X6_groups
  show it (L_X6_groups_9 grp row) 0 8 (0 : Int32) = _
  have e : it (L_X6_groups_9 grp row) 0 8 (0 : Int32) = it (fun k (r : Int32) => r + bI (decide (g k = k))) 0 8 (nI 0) := by
    refine it_cg 0 8 (fun i a _ hi => ?_) 8 0 _ (by omega) (by omega)
    unfold L_X6_groups_9
    rw [hz grp i hi]
    have l1 := (hg.1 i hi).1
    by_cases c : g i = i
    · rw [if_pos (by rw [c]), decide_eq_true c]
    · rw [if_neg (fun q => c ((nI_eq (by omega) (by omega)).mp q)), decide_eq_false c]
  rw [e, it_cnt, Nat.zero_add]
theorem groupsJ_rng (h : Rel (bm, sp, ph, sg, st, wy, ks, nt, gv, se, tk, kk, sk, pl, ld) row) (l : Nat → Int32) : ∃ n, n ≤ 8 ∧ (f_X4_groupsByJoining nt se l).1 = nI n := by
  obtain ⟨g, hg, hz, hc⟩ := r_lay h
  exact ⟨_, cnt_le _ 8 0, hc l⟩
theorem r_low (h : Rel (bm, sp, ph, sg, st, wy, ks, nt, gv, se, tk, kk, sk, pl, ld) row) (grp : Nat → Int32) {k : Nat} (hk : k < 8) : f_X6_layGroups grp row k = f_X4_lowestOfGroup nt se k := by
  obtain ⟨g, hg, hz, hc⟩ := r_lay h
  rw [hz grp k hk]
  unfold f_X4_lowestOfGroup
  congr 1
  have gk := hg.1 k hk
  have hin : ∀ x, x < 8 → (Bt (f_X4_groupMask nt se k) x = true ↔ g k = g x) := fun x hx => by
    rw [bt_gm h hk x]
    exact ⟨fun q => (hg.2 k x hk hx).mpr q.2, fun q => ⟨hx, (hg.2 k x hk hx).mp q⟩⟩
  have hy : Bt (f_X4_groupMask nt se k) (g k) = true := (hin (g k) (by omega)).mpr gk.2.symm
  have hn : ∀ x, x < g k → ¬ Bt (f_X4_groupMask nt se k) x = true := fun x hx q => by
    have e := (hin x (by omega)).mp q
    have := (hg.1 x (by omega)).1
    omega
  have key : ∀ n i, i + n = k → i ≤ g k → (unc k (itx (L_X4_lowestOfGroup_8 nt se k) i n ())).2 = g k := by
    intro n
    induction n with
    | zero => intro i e hi; rw [itx_0]; show k = g k; omega
    | succ n ih =>
      intro i e hi
      by_cases c : Bt (f_X4_groupMask nt se k) i = true
      · have e2 : i = g k := by
          by_cases hlt : i < g k
          · exact absurd c (hn i hlt)
          · omega
        rw [itx_r (r := ((), i))]
        · show i = g k
          exact e2
        · unfold L_X4_lowestOfGroup_8
          rw [isIn_bt _ (by omega), if_pos c]
      · have e2 : i ≠ g k := fun q => c (by rw [q]; exact hy)
        rw [itx_l (s' := ())]
        · exact ih (i + 1) (by omega) (by omega)
        · unfold L_X4_lowestOfGroup_8
          rw [isIn_bt _ (by omega), if_neg c]
  exact (key k 0 (by omega) (by omega)).symm
theorem gm_hi (h : Rel (bm, sp, ph, sg, st, wy, ks, nt, gv, se, tk, kk, sk, pl, ld) row) {k : Nat} (hk : k < 8) : ∀ j, 8 ≤ j → Bt (f_X4_groupMask nt se k) j = false := fun j hj => by
  cases e : Bt (f_X4_groupMask nt se k) j
  · rfl
  · have := ((bt_gm h hk j).mp e).1
    omega
theorem r_great (h : Rel (bm, sp, ph, sg, st, wy, ks, nt, gv, se, tk, kk, sk, pl, ld) row) (grp : Nat → Int32) : (f_X6_greatest grp row).1 = f_X4_greatestGroup nt se := by
  unfold f_X6_greatest f_X4_greatestGroup
  refine it_rel (P := fun (x : Int32 × (Nat → Int32)) (y : Int32) => x.1 = y) 8 (fun i x y hi hxy => ?_) 8 0 _ _ (by omega) rfl
  subst hxy
  unfold L_X6_greatest_4 L_X4_greatestGroup_4
  dsimp only
  have e : it (L_X6_greatest_24 row i x) 0 8 (0 : Int32) = f_J6_bitCount_0f7a4 (f_X4_groupMask nt se i) := by
    rw [bc_eq (gm_hi h hi)]
    have e2 := it_cnt (Bt (f_X4_groupMask nt se i)) 8 0 0
    rw [Nat.zero_add] at e2
    rw [← e2]
    refine it_cg 0 8 (fun j s _ hj => ?_) 8 0 _ (by omega) (by omega)
    unfold L_X6_greatest_24
    rw [r_set h x.2 hi, sh_bt _ hj, bI_bt]
  rw [e]
  generalize f_J6_bitCount_0f7a4 (f_X4_groupMask nt se i) = v
  by_cases c : x.1 < v
  · rw [if_pos c, if_neg (fun q => by have := Int32.le_iff_toInt_le.mp q; have := Int32.lt_iff_toInt_lt.mp c; omega)]
  · rw [if_neg c, if_pos (Int32.le_iff_toInt_le.mpr (by have : ¬ x.1.toInt < v.toInt := fun q => c (Int32.lt_iff_toInt_lt.mpr q); omega))]
theorem great_rng (h : Rel (bm, sp, ph, sg, st, wy, ks, nt, gv, se, tk, kk, sk, pl, ld) row) : ∃ n, n ≤ 8 ∧ 1 ≤ n ∧ f_X4_greatestGroup nt se = nI n := by
  unfold f_X4_greatestGroup
  have g := it_relI (f := L_X4_greatestGroup_4 nt se) (g := fun _ (u : Unit) => u) (P := fun i (s : Int32) (_ : Unit) => ∃ n, n ≤ 8 ∧ (0 < i → 1 ≤ n) ∧ s = nI n) 0 8 (fun i s u _ hi hp => ?_) 8 0 (0 : Int32) () (by omega) (by omega) ⟨0, by omega, by omega, rfl⟩
  · obtain ⟨n, h1, h2, h3⟩ := g
    exact ⟨n, h1, h2 (by omega), h3⟩
  · obtain ⟨n, h1, h2, h3⟩ := hp
    unfold L_X4_greatestGroup_4
    rw [h3, bc_eq (gm_hi h hi)]
    have hb := (bt_gm h hi i).mpr ⟨hi, Conn.rf _ i⟩
    have h4 := cnt_lt (B := fun _ => false) (C := Bt (f_X4_groupMask nt se i)) i rfl hb 8 0 (by omega) (by omega) (fun x _ _ q => by cases q)
    have h5 := cnt_le (Bt (f_X4_groupMask nt se i)) 8 0
    by_cases c : nI n < nI (cnt (Bt (f_X4_groupMask nt se i)) 0 8)
    · rw [if_pos c]
      exact ⟨_, h5, fun _ => by omega, rfl⟩
    · rw [if_neg c]
      have c2 : ¬ n < cnt (Bt (f_X4_groupMask nt se i)) 0 8 := fun q => c ((nI_ltI (by omega) (by omega)).mpr q)
      exact ⟨n, h1, fun _ => by omega, rfl⟩
theorem r_lpairs (h : Rel (bm, sp, ph, sg, st, wy, ks, nt, gv, se, tk, kk, sk, pl, ld) row) : f_X6_lockedPairs row = f_X4_lockedPairs nt se := by
  unfold f_X6_lockedPairs f_X4_lockedPairs
  refine it_cg 0 8 (fun i a _ hi => ?_) 8 0 _ (by omega) (by omega)
  unfold L_X6_lockedPairs_4 L_X4_lockedPairs_4
  refine it_cg (i + 1) 8 (fun j s hij hj => ?_) _ _ _ (by omega) (by omega)
  unfold L_X6_lockedPairs_14 L_X4_lockedPairs_14
  rw [r_locked h hi hj (by omega), bI_self]
  cases f_X4_areLocked nt se i j
  · exact Int32.add_zero s
  · rfl
theorem r_strikes (h : Rel (bm, sp, ph, sg, st, wy, ks, nt, gv, se, tk, kk, sk, pl, ld) row) : f_X6_allStrikes row = f_X4_strikesOfAll st := by
  unfold f_X6_allStrikes f_X4_strikesOfAll
  refine it_cg 0 8 (fun i a _ hi => ?_) 8 0 _ (by omega) (by omega)
  unfold L_X6_allStrikes_4 L_X4_strikesOfAll_4
  rw [h.e4 hi]
/-- the masks of beams -/
theorem bt_beam (b : Int32) (bm : Nat → Int32) (j : Nat) : Bt (f_X4_maskOfBeam bm b) j = (decide (j < 8) && f_X4_hangsOn bm j b) := by
  have h := bt_it2 (fun i => f_X4_hangsOn bm i b) 8 0 0 j (by omega)
  rw [bt_0, Bool.false_or] at h
  refine h.trans ?_
  congr 1
  exact decide_eq_decide.mpr (by omega)
theorem bt_going (sg : Nat → Int32) (j : Nat) : Bt (f_X4_goingMask sg) j = (decide (j < 8) && f_X4_goes sg j) := by
  have h := bt_it2 (fun i => f_X4_goes sg i) 8 0 0 j (by omega)
  rw [bt_0, Bool.false_or] at h
  refine h.trans ?_
  congr 1
  exact decide_eq_decide.mpr (by omega)
theorem r_going (h : Rel (bm, sp, ph, sg, st, wy, ks, nt, gv, se, tk, kk, sk, pl, ld) row) : f_X6_going row = f_J6_bitCount_0f7a4 (f_X4_goingMask sg) := by
  rw [bc_eq (fun k hk => by rw [bt_going, decide_eq_false (by omega)]; rfl)]
  have e2 := it_cnt (Bt (f_X4_goingMask sg)) 8 0 0
  rw [Nat.zero_add] at e2
  rw [← e2]
  unfold f_X6_going
  refine it_cg 0 8 (fun j s _ hj => ?_) 8 0 _ (by omega) (by omega)
  unfold L_X6_going_4
  rw [r_goes h hj, bI_self, bt_going, decide_eq_true hj, Bool.true_and]
theorem r_gave (h : Rel (bm, sp, ph, sg, st, wy, ks, nt, gv, se, tk, kk, sk, pl, ld) row) {k : Nat} (hk : k < 8) {b : Nat} : (f_X6_beamOf row k = nI b) ↔ f_X4_hangsOn bm k (nI b) = true := by
  rw [r_beam h hk]
  unfold f_X4_hangsOn
  by_cases c : bm k = nI b
  · rw [if_pos c]
    exact ⟨fun _ => rfl, fun _ => c⟩
  · rw [if_neg c]
    exact ⟨fun q => absurd q c, fun q => by cases q⟩
end TELLS
