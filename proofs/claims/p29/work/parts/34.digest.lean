/-! gaps of beams, numbers of all, the digest -/
theorem widest_rng {ph : Nat → Int32} (hp : ∀ k, k < 8 → 0 ≤ (ph k).toInt ∧ (ph k).toInt < 1000) (bm sg : Nat → Int32) (b : Int32) : 0 ≤ (f_X4_widestGap bm ph sg b).toInt ∧ (f_X4_widestGap bm ph sg b).toInt ≤ 500 := by
  unfold f_X4_widestGap
  refine it_invI (P := fun _ (y : Int32) => 0 ≤ y.toInt ∧ y.toInt ≤ 500) 8 (fun i x hi hx => ?_) 8 0 _ (by omega) ⟨by decide, by decide⟩
  unfold L_X4_widestGap_16
  refine it_invI (P := fun _ (y : Int32) => 0 ≤ y.toInt ∧ y.toInt ≤ 500) 8 (fun j x hj hx => ?_) (8 - (i + 1)) (i + 1) x (by omega) hx
  unfold L_X4_widestGap_29
  have g := gap_ge hp hi hj
  have ga := abs_toInt (g := f_X4_gapFrom ph i j) (by omega)
  have hr : 0 ≤ (if 0 ≤ f_X4_gapFrom ph i j then f_X4_gapFrom ph i j else 0 - f_X4_gapFrom ph i j).toInt ∧ (if 0 ≤ f_X4_gapFrom ph i j then f_X4_gapFrom ph i j else 0 - f_X4_gapFrom ph i j).toInt ≤ 500 := by
    rw [ga]
    split <;> omega
  generalize (if 0 ≤ f_X4_gapFrom ph i j then f_X4_gapFrom ph i j else 0 - f_X4_gapFrom ph i j) = v at hr ⊢
  split
  · split
    · split
      · exact hr
      · exact hx
    · exact hx
  · exact hx
theorem gaps_it (bm ph sg : Nat → Int32) : it (L_X5_meanGap_4 bm ph sg) 0 3 (0 : Int32) = f_X4_widestGap bm ph sg (nI 0) + f_X4_widestGap bm ph sg (nI 1) + f_X4_widestGap bm ph sg (nI 2) := by
  rw [it_s, it_s, it_s, it_0]
  unfold L_X5_meanGap_4
  rw [Int32.zero_add]
theorem gaps_rng {ph : Nat → Int32} (hp : ∀ k, k < 8 → 0 ≤ (ph k).toInt ∧ (ph k).toInt < 1000) (bm sg : Nat → Int32) : ∃ n, n ≤ 1500 ∧ it (L_X5_meanGap_4 bm ph sg) 0 3 (0 : Int32) = nI n := by
  rw [gaps_it]
  have h0 := widest_rng hp bm sg (nI 0)
  have h1 := widest_rng hp bm sg (nI 1)
  have h2 := widest_rng hp bm sg (nI 2)
  generalize f_X4_widestGap bm ph sg (nI 0) = a at h0 ⊢
  generalize f_X4_widestGap bm ph sg (nI 1) = b at h1 ⊢
  generalize f_X4_widestGap bm ph sg (nI 2) = c at h2 ⊢
  have e1 : (a + b).toInt = a.toInt + b.toInt := add_toInt (by omega) (by omega)
  have e2 : (a + b + c).toInt = a.toInt + b.toInt + c.toInt := by rw [add_toInt (by omega) (by omega), e1]
  refine ⟨(a + b + c).toInt.toNat, by omega, Int32.toInt_inj.mp ?_⟩
  rw [nI_toInt (by omega)]
  omega
theorem step_ok (nt se : Nat → Int32) : vf_okD (f_X5_stepShare nt se) := by
  obtain ⟨n, h1, h2, h3⟩ := great_rng (nt := nt) (se := se)
  exact ⟨n, h1, h2, by unfold f_X5_stepShare; rw [h3]⟩
theorem mean_ok {ph : Nat → Int32} (hp : ∀ k, k < 8 → 0 ≤ (ph k).toInt ∧ (ph k).toInt < 1000) (bm sg : Nat → Int32) : vf_okF (f_X5_meanGap bm ph sg) := by
  obtain ⟨n, h1, h2⟩ := gaps_rng hp bm sg
  exact ⟨n, h1, by unfold f_X5_meanGap; rw [h2]⟩
/-- numbers of all don't hang on the work row -/
theorem all_l {sg st nt se : Nat → Int32} {tk kk sk : Int32} (h : NS nt) (l l' : Nat → Int32) (w s : Int32) : (f_X4_numberOfAll sg st nt se tk kk sk l w s).1 = (f_X4_numberOfAll sg st nt se tk kk sk l' w s).1 := by
  unfold f_X4_numberOfAll
  have e := gbj_l (se := se) h l l'
  by_cases c0 : w = 0
  · rw [if_pos c0, if_pos c0]
  rw [if_neg c0, if_neg c0]
  by_cases c1 : w = 1
  · rw [if_pos c1, if_pos c1]
  rw [if_neg c1, if_neg c1]
  by_cases c2 : w = 2
  · rw [if_pos c2, if_pos c2]
  rw [if_neg c2, if_neg c2]
  by_cases c3 : w = 3
  · rw [if_pos c3, if_pos c3]
  rw [if_neg c3, if_neg c3]
  by_cases c4 : w = 4
  · rw [if_pos c4, if_pos c4]
    exact e
  rw [if_neg c4, if_neg c4]
  by_cases c5 : w = 5
  · rw [if_pos c5, if_pos c5]
  rw [if_neg c5, if_neg c5]
  by_cases c6 : w = 6
  · rw [if_pos c6, if_pos c6]
  rw [if_neg c6, if_neg c6]
  by_cases c7 : w = 7
  · rw [if_pos c7, if_pos c7]
  rw [if_neg c7, if_neg c7]
  by_cases c8 : w = 8
  · rw [if_pos c8, if_pos c8]
  rw [if_neg c8, if_neg c8]
theorem counts_l {sg st nt se : Nat → Int32} {tk kk sk : Int32} (h : NS nt) (l l' : Nat → Int32) (size : Nat) (v : Int64) : (f_X5_hashOfCounts sg st nt se tk kk sk l size v).1 = (f_X5_hashOfCounts sg st nt se tk kk sk l' size v).1 := by
  unfold f_X5_hashOfCounts
  have g := it_rel (f := L_X5_hashOfCounts_5 sg st nt se tk kk sk size) (g := L_X5_hashOfCounts_5 sg st nt se tk kk sk size) (P := fun a b => a.1 = b.1) 10 (fun i a b hi hp => ?_) 10 0 (v, l) (v, l') (by omega) rfl
  · show it (L_X5_hashOfCounts_43 se) 0 3 _ = it (L_X5_hashOfCounts_43 se) 0 3 _
    rw [g]
  · unfold L_X5_hashOfCounts_5
    show f_X5_hashWith a.1 _ = f_X5_hashWith b.1 _
    rw [hp, all_l h a.2 b.2]
theorem codeAt_in {codes : Nat → Int32} {len j : Nat} (hl : len ≤ 60) (hj : j < len) : f_X3_codeAt codes len (nI j) = codes j := by
  unfold f_X3_codeAt
  rw [if_neg (nI_pos (by omega)), if_neg (fun q => by have := (nI_leI (by omega) (by omega)).mp q; omega), nI_clamp (by omega)]
theorem text_c {codes codes' : Nat → Int32} {len : Nat} (hl : len ≤ 60) (hc : ∀ j, j < len → codes j = codes' j) (v : Int64) : f_X5_hashOfText codes len v = f_X5_hashOfText codes' len v := by
  unfold f_X5_hashOfText
  refine it_cg 0 len (fun i a _ hi => ?_) len 0 _ (by omega) (by omega)
  unfold L_X5_hashOfText_16
  rw [codeAt_in hl hi, codeAt_in hl hi, hc i hi]
/-- the digest by its parts -/
def dgP (sn : Bool) (bm sp ph sg st wy ks nt gv se tph tst tnt : Nat → Int32) (u nx : Int32) (hc : Int64) (codes : Nat → Int32) (len : Nat) : Int64 :=
  f_X5_hashOfText codes len (f_X5_hashWith (f_X5_hashWith (f_X5_hashWith (f_X5_hashWith (f_X5_hashWith (f_X5_hashOfTrial st tph tst tnt se (f_X5_hashOfParts bm sp ph sg st wy ks nt gv se hc)) u.toInt64) nx.toInt64) (f_X5_bitsOfDouble (f_X5_stepShare nt se))) ((f_X5_bitsOfFloat (f_X5_meanGap bm ph sg)).toInt64)) (if sn = true then (1 : Int64) else (0 : Int64)))
def dgZ (sn : Bool) (z : StT) (size : Nat) (codes : Nat → Int32) (len : Nat) : Int64 :=
  dgP sn (zbm z) (zsp z) (zph z) (zsg z) (zst z) (zwy z) (zks z) (znt z) (zgv z) (zse z) (zph (tks 20 (cl z))) (zst (tks 20 (cl z))) (znt (tks 20 (cl z))) (uz 0 3 500 0 (cl z)) (nz 500 1 (cl z)) (f_X5_hashOfCounts (zsg z) (zst z) (znt z) (zse z) (ztk z) (zkk z) (zsk z) Z0 size (3659 : Int64)).1 codes len
section DIG
variable {bm sp ph sg st wy ks nt gv se : Nat → Int32} {tk kk sk : Int32}
theorem dg_rfl (sn : Bool) (ld tp : Nat → Int32) (size : Nat) (codes : Nat → Int32) (len : Nat) : (f_X5_digest sn bm sp ph sg st wy ks nt gv se tk kk sk ld tp size codes len).1 = dgP sn bm sp ph sg st wy ks nt gv se (f_X4_letPass bm sp ph sg st wy nt gv se tk sk tp (20 : Int32)).2.1 (f_X4_letPass bm sp ph sg st wy nt gv se tk sk tp (20 : Int32)).2.2.2.1 (f_X4_letPass bm sp ph sg st wy nt gv se tk sk tp (20 : Int32)).2.2.2.2.2.1 (f_X5_ticksUntilLocked bm sp ph sg st wy ks nt gv se tk kk sk (f_X5_tryTicks bm sp ph sg st wy ks nt gv se tk kk sk tp (20 : Int32)).2.2.2.2.2.2.2.2.2.2.2.2.2 0 3).1 (f_X5_nextStrike bm sp ph sg st wy ks nt gv se tk kk sk (f_X5_ticksUntilLocked bm sp ph sg st wy ks nt gv se tk kk sk (f_X5_tryTicks bm sp ph sg st wy ks nt gv se tk kk sk tp (20 : Int32)).2.2.2.2.2.2.2.2.2.2.2.2.2 0 3).2.2.2.2.2.2.2.2.2.2.2.2.2.2).1 (f_X5_hashOfCounts sg st nt se tk kk sk ld size (3659 : Int64)).1 codes len := rfl
theorem lp_ph (p : Nat → Int32) (n : Int32) : (f_X4_letPass bm sp ph sg st wy nt gv se tk sk p n).2.1 = zph (tks n.toNatClampNeg (bm, sp, ph, sg, st, wy, ks, nt, gv, se, tk, kk, sk, Z0, Z0)) :=
  congrArg (fun a : Int32 × StT => zph a.2) (lp_eq (ks := ks) (kk := kk) p n)
theorem lp_st (p : Nat → Int32) (n : Int32) : (f_X4_letPass bm sp ph sg st wy nt gv se tk sk p n).2.2.2.1 = zst (tks n.toNatClampNeg (bm, sp, ph, sg, st, wy, ks, nt, gv, se, tk, kk, sk, Z0, Z0)) :=
  congrArg (fun a : Int32 × StT => zst a.2) (lp_eq (ks := ks) (kk := kk) p n)
theorem dg_eq (h : NS nt) (sn : Bool) (ld tp : Nat → Int32) (size : Nat) {codes codes' : Nat → Int32} {len : Nat} (hl : len ≤ 60) (hc : ∀ j, j < len → codes j = codes' j) (pl ld' : Nat → Int32) : (f_X5_digest sn bm sp ph sg st wy ks nt gv se tk kk sk ld tp size codes len).1 = dgZ sn (bm, sp, ph, sg, st, wy, ks, nt, gv, se, tk, kk, sk, pl, ld') size codes' len := by
  have e20 : (20 : Int32).toNatClampNeg = 20 := by decide +kernel
  rw [dg_rfl, uz_eq, nz_eq, lp_ph (ks := ks) (kk := kk), lp_st (ks := ks) (kk := kk), lp_nt (ks := ks) (kk := kk), e20, counts_l h ld Z0]
  unfold dgZ
  have ec : cl (bm, sp, ph, sg, st, wy, ks, nt, gv, se, tk, kk, sk, pl, ld') = (bm, sp, ph, sg, st, wy, ks, nt, gv, se, tk, kk, sk, Z0, Z0) := rfl
  rw [ec]
  generalize tks 20 (bm, sp, ph, sg, st, wy, ks, nt, gv, se, tk, kk, sk, Z0, Z0) = Z
  generalize uz 0 3 500 0 (bm, sp, ph, sg, st, wy, ks, nt, gv, se, tk, kk, sk, Z0, Z0) = U
  generalize nz 500 1 (bm, sp, ph, sg, st, wy, ks, nt, gv, se, tk, kk, sk, Z0, Z0) = N
  unfold dgP
  exact text_c hl hc _
end DIG
