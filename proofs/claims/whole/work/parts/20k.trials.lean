/-! what would be -/
theorem itx_rel {α β ρ σ : Type} {f : Nat → α → α ⊕ ρ} {g : Nat → β → β ⊕ σ} {P : α → β → Prop} {Q : ρ → σ → Prop} (N : Nat) (hs : ∀ i a b, i < N → P a b → (∃ r r', f i a = .inr r ∧ g i b = .inr r' ∧ Q r r') ∨ (∃ a' b', f i a = .inl a' ∧ g i b = .inl b' ∧ P a' b')) : ∀ (n i : Nat) (a : α) (b : β), i + n ≤ N → P a b → (∃ r r', itx f i n a = .inr r ∧ itx g i n b = .inr r' ∧ Q r r') ∨ (∃ a' b', itx f i n a = .inl a' ∧ itx g i n b = .inl b' ∧ P a' b')
  | 0, i, a, b, _, h => Or.inr ⟨a, b, itx_0 f i a, itx_0 g i b, h⟩
  | n + 1, i, a, b, hi, h => by
    rcases hs i a b (by omega) h with ⟨r, r', e1, e2, hq⟩ | ⟨a', b', e1, e2, hp⟩
    · exact Or.inl ⟨r, r', itx_r f i n a r e1, itx_r g i n b r' e2, hq⟩
    · rw [itx_l f i n a a' e1, itx_l g i n b b' e2]
      exact itx_rel N hs n (i + 1) a' b' (by omega) hp
theorem itx_more_l {α ρ : Type} {f : Nat → α → α ⊕ ρ} (m : Nat) : ∀ (n i : Nat) (a a' : α), itx f i n a = .inl a' → itx f i (n + m) a = itx f (i + n) m a'
  | 0, i, a, a', h => by
    rw [itx_0] at h
    cases h
    rw [Nat.zero_add, Nat.add_zero]
  | n + 1, i, a, a', h => by
    rw [show n + 1 + m = n + m + 1 by omega, show i + (n + 1) = i + 1 + n by omega]
    cases e : f i a with
    | inl a2 =>
      rw [itx_l f i n a a2 e] at h
      rw [itx_l f i (n + m) a a2 e]
      exact itx_more_l m n (i + 1) a2 a' h
    | inr r =>
      rw [itx_r f i n a r e] at h
      cases h
theorem itx_more_r {α ρ : Type} {f : Nat → α → α ⊕ ρ} (m : Nat) : ∀ (n i : Nat) (a : α) (r : ρ), itx f i n a = .inr r → itx f i (n + m) a = .inr r
  | 0, i, a, r, h => by
    rw [itx_0] at h
    cases h
  | n + 1, i, a, r, h => by
    rw [show n + 1 + m = n + m + 1 by omega]
    cases e : f i a with
    | inl a2 =>
      rw [itx_l f i n a a2 e] at h
      rw [itx_l f i (n + m) a a2 e]
      exact itx_more_r m n (i + 1) a2 r h
    | inr r2 =>
      rw [itx_r f i n a r2 e] at h
      rw [itx_r f i (n + m) a r2 e]
      exact h
section TRIALS
variable {bm sp ph sg st wy ks nt gv se : Nat → Int32} {tk kk sk : Int32} {pl ld : Nat → Int32} {row : Nat → Int32}
theorem r_tried (h : Rel (bm, sp, ph, sg, st, wy, ks, nt, gv, se, tk, kk, sk, pl, ld) row) (hR : Rng bm sp ph se) (p4 p6 grp : Nat → Int32) (n : Int32) {k : Nat} (hk : k < 8) (w : Int32) : (f_X6_wouldBe row p6 grp n k w).1 = f_X5_triedNumber st (f_X4_letPass bm sp ph sg st wy nt gv se tk sk p4 n).2.1 (f_X4_letPass bm sp ph sg st wy nt gv se tk sk p4 n).2.2.2.1 (f_X4_letPass bm sp ph sg st wy nt gv se tk sk p4 n).2.2.2.2.2.1 se k w := by
  have ht := r_ticks h hR p4 p6 n
  unfold f_X6_wouldBe f_X5_triedNumber
  generalize f_X4_letPass bm sp ph sg st wy nt gv se tk sk p4 n = A at ht ⊢
  generalize f_X6_goTicks p6 row n = B at ht ⊢
  obtain ⟨e, hr, hrg⟩ := ht
  show (if w = 0 then B.2.2 (6 + 7 * k + 2) else if w = (1 : Int32) then B.2.2 (6 + 7 * k + 4) - row (6 + 7 * k + 4) else (f_X6_groupSet grp B.2.2 k).1) = _
  rw [hr.e2 hk, hr.e4 hk, h.e4 hk, r_set hr grp hk]
theorem r_ifPassed (h : Rel (bm, sp, ph, sg, st, wy, ks, nt, gv, se, tk, kk, sk, pl, ld) row) (hR : Rng bm sp ph se) (p4 p6 grp : Nat → Int32) (n : Int32) {k : Nat} (hk : k < 8) (w : Int32) : (f_X6_ifPassed row p6 grp n k w).1 = (f_X5_ifPassed bm sp ph sg st wy ks nt gv se tk kk sk p4 n k w).1 := r_tried h hR p4 p6 grp n hk w
/-- what states of a search hold of each other -/
def SP (bm sp ks gv se : Nat → Int32) (kk : Int32) (pl ld : Nat → Int32) (a : (Nat → Int32) × (Nat → Int32) × (Nat → Int32) × (Nat → Int32) × (Nat → Int32) × Int32 × Int32 × (Nat → Int32)) (z : (Nat → Int32) × (Nat → Int32)) : Prop :=
  Rel (bm, sp, a.1, a.2.1, a.2.2.1, a.2.2.2.1, ks, a.2.2.2.2.1, gv, se, a.2.2.2.2.2.1, kk, a.2.2.2.2.2.2.1, pl, ld) z.1 ∧ Rng bm sp a.1 se
theorem SP_tick {a : (Nat → Int32) × (Nat → Int32) × (Nat → Int32) × (Nat → Int32) × (Nat → Int32) × Int32 × Int32 × (Nat → Int32)} {z : (Nat → Int32) × (Nat → Int32)} (hp : SP bm sp ks gv se kk pl ld a z) : (f_X4_tick bm sp a.1 a.2.1 a.2.2.1 a.2.2.2.1 a.2.2.2.2.1 gv se a.2.2.2.2.2.1 a.2.2.2.2.2.2.1 a.2.2.2.2.2.2.2).1 = (f_X6_tick z.2 z.1).1 ∧ SP bm sp ks gv se kk pl ld (f_X4_tick bm sp a.1 a.2.1 a.2.2.1 a.2.2.2.1 a.2.2.2.2.1 gv se a.2.2.2.2.2.1 a.2.2.2.2.2.2.1 a.2.2.2.2.2.2.2).2 ((f_X6_tick z.2 z.1).2.2, (f_X6_tick z.2 z.1).2.1) := by
  have ht := r_tick hp.1 hp.2 a.2.2.2.2.2.2.2 z.2
  generalize f_X4_tick bm sp a.1 a.2.1 a.2.2.1 a.2.2.2.1 a.2.2.2.2.1 gv se a.2.2.2.2.2.1 a.2.2.2.2.2.2.1 a.2.2.2.2.2.2.2 = A at ht ⊢
  generalize f_X6_tick z.2 z.1 = B at ht ⊢
  obtain ⟨e, hr, hrg⟩ := ht
  exact ⟨e, hr, hrg⟩
theorem r_locks (h : Rel (bm, sp, ph, sg, st, wy, ks, nt, gv, se, tk, kk, sk, pl, ld) row) (hR : Rng bm sp ph se) (p4 p6 : Nat → Int32) {k o : Nat} (hk : k < 8) (ho : o < 8) (hne : k ≠ o) : (f_X6_lockedBehind row p6 k o).1 = (f_X5_ticksUntilLocked bm sp ph sg st wy ks nt gv se tk kk sk p4 k o).1 := by
  have hs := itx_rel (f := L_X5_ticksUntilLocked_13 bm sp ks gv se kk k o) (g := L_X6_lockedBehind_13 k o) (P := SP bm sp ks gv se kk pl ld) (Q := fun r r' => r'.1 = r.1) 500 (fun i a z _ hp => ?_) 500 0 (ph, sg, st, wy, nt, tk, sk, p4) (row, p6) (by omega) ⟨h, hR⟩
  · unfold f_X6_lockedBehind f_X5_ticksUntilLocked
    rcases hs with ⟨r, r', e1, e2, hq⟩ | ⟨a', z', e1, e2, hp⟩
    · rw [e1, itx_more_r 1 500 0 _ _ e2]
      exact hq
    · rw [e1, itx_more_l 1 500 0 _ _ e2]
      have el := r_locked hp.1 hk ho hne
      by_cases c : f_X6_isLocked z'.1 k o = true
      · rw [itx_r (r := (nI (0 + 500), z'.1, z'.2)) (h := by unfold L_X6_lockedBehind_13; rw [if_pos c])]
        show nI (0 + 500) = if f_X4_areLocked a'.2.2.2.2.1 se k o = true then (500 : Int32) else (-1 : Int32)
        rw [if_pos (el.symm.trans c)]
        rfl
      · rw [itx_l (s' := ((f_X6_tick z'.2 z'.1).2.2, (f_X6_tick z'.2 z'.1).2.1)) (h := by unfold L_X6_lockedBehind_13; rw [if_neg c]), itx_0]
        show (-1 : Int32) = if f_X4_areLocked a'.2.2.2.2.1 se k o = true then (500 : Int32) else (-1 : Int32)
        rw [if_neg (fun q => c (el.trans q))]
  · have el := r_locked hp.1 hk ho hne
    unfold L_X5_ticksUntilLocked_13 L_X6_lockedBehind_13
    by_cases c : f_X6_isLocked z.1 k o = true
    · left
      have c4 : f_X4_areLocked a.2.2.2.2.1 se k o = true := el.symm.trans c
      rw [if_pos c, if_pos c4]
      exact ⟨_, _, rfl, rfl, rfl⟩
    · right
      have c4 : ¬ f_X4_areLocked a.2.2.2.2.1 se k o = true := fun q => c (el.trans q)
      rw [if_neg c, if_neg c4]
      exact ⟨_, _, rfl, rfl, (SP_tick hp).2⟩
theorem r_soon (h : Rel (bm, sp, ph, sg, st, wy, ks, nt, gv, se, tk, kk, sk, pl, ld) row) (hR : Rng bm sp ph se) (p4 p6 : Nat → Int32) : (f_X6_soonest row p6).1 = (f_X5_nextStrike bm sp ph sg st wy ks nt gv se tk kk sk p4).1 := by
  have hs := itx_rel (f := L_X5_nextStrike_13 bm sp ks gv se kk) (g := L_X6_soonest_13) (P := SP bm sp ks gv se kk pl ld) (Q := fun r r' => r'.1 = r.1) 501 (fun i a z _ hp => ?_) 500 1 (ph, sg, st, wy, nt, tk, sk, p4) (row, p6) (by omega) ⟨h, hR⟩
  · unfold f_X6_soonest f_X5_nextStrike
    rcases hs with ⟨r, r', e1, e2, hq⟩ | ⟨a', z', e1, e2, hp⟩
    · rw [e1, e2]
      exact hq
    · rw [e1, e2]
      rfl
  · have ht := SP_tick hp
    unfold L_X5_nextStrike_13 L_X6_soonest_13
    rw [ht.1]
    by_cases c : (f_X6_tick z.2 z.1).1 ≤ 0
    · right
      rw [if_pos c, if_pos c]
      exact ⟨_, _, rfl, rfl, ht.2⟩
    · left
      rw [if_neg c, if_neg c]
      exact ⟨_, _, rfl, rfl, rfl⟩
theorem r_withGive (h : Rel (bm, sp, ph, sg, st, wy, ks, nt, gv, se, tk, kk, sk, pl, ld) row) (hR : Rng bm sp ph se) (p4 p6 l4 grp : Nat → Int32) {b : Nat} (hb : b < 3) (v : Int32) : (f_X6_groups grp (f_X6_goTicks p6 (upd row (0 + b) v) (100 : Int32)).2.2).1 = (f_X5_groupsWithGive bm sp ph sg st wy ks nt gv se tk kk sk p4 l4 b v).1 ∧ ∃ n, n ≤ 8 ∧ (f_X5_groupsWithGive bm sp ph sg st wy ks nt gv se tk kk sk p4 l4 b v).1 = nI n := by
  obtain ⟨e, hr, hrg⟩ := r_ticks (h.gv hb v) hR p4 p6 (100 : Int32)
  exact ⟨r_groups hr grp l4, groupsJ_rng hr l4⟩
theorem r_best (h : Rel (bm, sp, ph, sg, st, wy, ks, nt, gv, se, tk, kk, sk, pl, ld) row) (hR : Rng bm sp ph se) (tr p6 grp : Nat → Int32) {b : Nat} (hb : b < 3) (tbm tsp tph tsg tst twy tks tnt tgv tse : Nat → Int32) (ttk tkk tsk : Int32) (tpl tld : Nat → Int32) : (f_X6_bestGive row tr p6 grp b).1 = (f_X5_bestGive bm sp ph sg st wy ks nt gv se tk kk sk tbm tsp tph tsg tst twy tks tnt tgv tse ttk tkk tsk tpl tld b).1 := by
  unfold f_X6_bestGive f_X5_bestGive
  have g := it_relI (f := L_X5_bestGive_25 bm sp ph sg st wy ks nt gv se tk kk sk b) (g := L_X6_bestGive_28 row b) (P := fun i a z => (i = 0 ∧ a.1 = 9 ∧ z.2.1 = -1) ∨ (0 < i ∧ a.1 = z.1 ∧ a.2.1 = z.2.1 ∧ ¬ z.2.1 = -1)) 0 21 (fun i a z _ hi hp => ?_) 21 0 ((9 : Int32), (0 : Int32), tbm, tsp, tph, tsg, tst, twy, tks, tnt, tgv, tse, ttk, tkk, tsk, tpl, tld) ((0 : Int32), (-1 : Int32), tr, p6, grp) (by omega) (by omega) (Or.inl ⟨rfl, rfl, rfl⟩)
  · rcases g with g | g
    · omega
    · exact g.2.2.1.symm
  · obtain ⟨eg, n, hn, en⟩ := r_withGive h hR a.2.2.2.2.2.2.2.2.2.2.2.2.2.2.2.1 z.2.2.2.1 a.2.2.2.2.2.2.2.2.2.2.2.2.2.2.2.2 z.2.2.2.2 hb (nI i)
    right
    unfold L_X5_bestGive_25 L_X6_bestGive_28
    dsimp only
    rw [eg]
    generalize (f_X5_groupsWithGive bm sp ph sg st wy ks nt gv se tk kk sk a.2.2.2.2.2.2.2.2.2.2.2.2.2.2.2.1 a.2.2.2.2.2.2.2.2.2.2.2.2.2.2.2.2 b (nI i)).1 = v at en ⊢
    have hm1 : ¬ nI i = (-1 : Int32) := fun q => by
      have e := congrArg Int32.toInt q
      rw [nI_toInt (by omega)] at e
      have z1 : (-1 : Int32).toInt = -1 := rfl
      omega
    rcases hp with ⟨_, e1, e2⟩ | ⟨_, e1, e2, e3⟩
    · have c : ¬ a.1 ≤ v := fun q => by
        rw [e1, en] at q
        have q := Int32.le_iff_toInt_le.mp q
        rw [nI_toInt (by omega)] at q
        have z9 : (9 : Int32).toInt = 9 := rfl
        omega
      rw [if_neg c, if_neg c, if_pos e2, if_pos rfl, if_pos rfl]
      exact ⟨by omega, rfl, rfl, hm1⟩
    · rw [e1, e2, if_neg e3]
      by_cases c : z.1 ≤ v
      · rw [if_pos c, if_pos c, if_pos c, if_neg Bool.false_ne_true, if_neg Bool.false_ne_true]
        exact ⟨by omega, rfl, rfl, e3⟩
      · rw [if_neg c, if_neg c, if_neg c, if_pos rfl, if_pos rfl]
        exact ⟨by omega, rfl, rfl, hm1⟩
end TRIALS
