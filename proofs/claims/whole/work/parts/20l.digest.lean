/-! the digests -/
def dgB (states : Nat) (row grp : Nat → Int32) : Int64 × (Nat → Int32) := it (L_X6_digest_67 row) 0 8 ((it (L_X6_digest_38 row) 0 3 (it (L_X6_digest_11 states row) 0 10 ((3659 : Int64), grp)).1), (it (L_X6_digest_11 states row) 0 10 ((3659 : Int64), grp)).2)
def dgC (states : Nat) (row tr p6 grp : Nat → Int32) : Int64 × (Nat → Int32) × (Nat → Int32) × (Nat → Int32) := it (L_X6_digest_219 row) 0 8 ((it (L_X6_digest_176 row) 0 3 (it (L_X6_digest_112 row) 0 8 (dgB states row grp).1)), tr, p6, (dgB states row grp).2)
def dg6 (sh : Bool) (len : Nat) (row : Nat → Int32) (C : Int64 × (Nat → Int32) × (Nat → Int32) × (Nat → Int32)) : Int64 := (((31 : Int64) * (((31 : Int64) * (((31 : Int64) * (((31 : Int64) * (((31 : Int64) * (((31 : Int64) * C.1) + ((f_X6_lockedBehind row (C.2.2.1) 0 3).1).toInt64)) + ((f_X6_soonest row ((f_X6_lockedBehind row (C.2.2.1) 0 3).2.2)).1).toInt64)) + (f_Jxe99ae_doubleToLongBits_ccdee (FP.ddiv (FP.i2d ((f_X6_greatest (C.2.2.2) row).1)) (4620693217682128896 : UInt64))))) + (f_Jxf58ca_floatToIntBits_5c35a (FP.fdiv (FP.i2f (f_X6_allGaps row)) (1077936128 : UInt32))).toInt64)) + (bI (if sh = true then true else false)).toInt64)) + (nI len).toInt64)
theorem dg6_eq (sh : Bool) (states len : Nat) (row tr p6 grp text : Nat → Int32) : (f_X6_digest sh states len row tr p6 grp text).1 = it (L_X6_digest_365 text) 0 len (dg6 sh len row (dgC states row tr p6 grp)) := rfl
section DIGEST
variable {bm sp ph sg st wy ks nt gv se : Nat → Int32} {tk kk sk : Int32} {pl ld : Nat → Int32} {row : Nat → Int32}
theorem d_counts (h : Rel (bm, sp, ph, sg, st, wy, ks, nt, gv, se, tk, kk, sk, pl, ld) row) (states : Nat) (grp l : Nat → Int32) (v : Int64) : it (L_X6_digest_38 row) 0 3 (it (L_X6_digest_11 states row) 0 10 (v, grp)).1 = (f_X5_hashOfCounts sg st nt se tk kk sk l states v).1 := by
  have e1 : (it (L_X6_digest_11 states row) 0 10 (v, grp)).1 = (it (L_X5_hashOfCounts_5 sg st nt se tk kk sk states) 0 10 (v, l)).1 := by
    refine it_rel (P := fun (x y : Int64 × (Nat → Int32)) => x.1 = y.1) 10 (fun i x y hi hxy => ?_) 10 0 _ _ (by omega) rfl
    unfold L_X6_digest_11 L_X5_hashOfCounts_5 f_X5_hashWith
    show (31 : Int64) * x.1 + (f_X6_tellCount states row x.2 (nI i)).1.toInt64 = (31 : Int64) * y.1 + (f_X4_numberOfAll sg st nt se tk kk sk y.2 (nI i) (nI states)).1.toInt64
    rw [hxy, r_tellCount h states x.2 y.2 (nI i)]
  rw [e1]
  unfold f_X5_hashOfCounts
  refine it_cg 0 3 (fun i a _ hi => ?_) 3 0 _ (by omega) (by omega)
  unfold L_X6_digest_38 L_X5_hashOfCounts_43 f_X5_hashWith
  rw [h.es hi]
theorem d_clocks (h : Rel (bm, sp, ph, sg, st, wy, ks, nt, gv, se, tk, kk, sk, pl, ld) row) (hR : Rng bm sp ph se) (v : Int64) (grp : Nat → Int32) : (it (L_X6_digest_67 row) 0 8 (v, grp)).1 = it (L_X5_hashOfParts_5 bm sp ph sg st wy ks nt gv se) 0 8 v := by
  refine it_rel (P := fun (x : Int64 × (Nat → Int32)) (y : Int64) => x.1 = y) 8 (fun i x y hi hxy => ?_) 8 0 _ _ (by omega) rfl
  unfold L_X6_digest_67 L_X5_hashOfParts_5
  refine it_rel (P := fun (x : Int64 × (Nat → Int32)) (y : Int64) => x.1 = y) 11 (fun w x y hw hxy => ?_) 11 0 _ _ (by omega) hxy
  unfold L_X6_digest_76 L_X5_hashOfParts_15 f_X5_hashWith
  show (31 : Int64) * x.1 + (f_X6_tellClock row x.2 i w).1.toInt64 = _
  rw [hxy, r_tellClock h hR x.2 hi hw]
theorem d_pairs (h : Rel (bm, sp, ph, sg, st, wy, ks, nt, gv, se, tk, kk, sk, pl, ld) row) (hR : Rng bm sp ph se) (v : Int64) : it (L_X6_digest_112 row) 0 8 v = it (L_X5_hashOfParts_54 bm ph sg nt se) 0 8 v := by
  refine it_cg 0 8 (fun i a _ hi => ?_) 8 0 _ (by omega) (by omega)
  unfold L_X6_digest_112 L_X5_hashOfParts_54
  refine it_cg (i + 1) 8 (fun j a hij hj => ?_) _ _ _ (by omega) (by omega)
  unfold L_X6_digest_123 L_X5_hashOfParts_67
  refine it_cg 0 3 (fun w a _ hw => ?_) 3 0 _ (by omega) (by omega)
  unfold L_X6_digest_133 L_X5_hashOfParts_77 f_X5_hashWith
  rw [r_tellPair h hR hi hj (by omega)]
theorem d_beams (h : Rel (bm, sp, ph, sg, st, wy, ks, nt, gv, se, tk, kk, sk, pl, ld) row) (hR : Rng bm sp ph se) (v : Int64) : it (L_X6_digest_176 row) 0 3 v = it (L_X5_hashOfParts_123 bm ph sg gv se) 0 3 v := by
  refine it_cg 0 3 (fun b a _ hb => ?_) 3 0 _ (by omega) (by omega)
  unfold L_X6_digest_176 L_X5_hashOfParts_123
  refine it_cg 0 5 (fun w a _ hw => ?_) 5 0 _ (by omega) (by omega)
  unfold L_X6_digest_184 L_X5_hashOfParts_132 f_X5_hashWith
  rw [r_tellBeam h hR hb]
theorem d_parts (h : Rel (bm, sp, ph, sg, st, wy, ks, nt, gv, se, tk, kk, sk, pl, ld) row) (hR : Rng bm sp ph se) (v : Int64) (grp : Nat → Int32) : it (L_X6_digest_176 row) 0 3 (it (L_X6_digest_112 row) 0 8 (it (L_X6_digest_67 row) 0 8 (v, grp)).1) = f_X5_hashOfParts bm sp ph sg st wy ks nt gv se v := by
  rw [d_clocks h hR, d_pairs h hR, d_beams h hR]
  rfl
theorem d_trial (h : Rel (bm, sp, ph, sg, st, wy, ks, nt, gv, se, tk, kk, sk, pl, ld) row) (hR : Rng bm sp ph se) (p4 : Nat → Int32) (v : Int64) (tr p6 grp : Nat → Int32) : (it (L_X6_digest_219 row) 0 8 (v, tr, p6, grp)).1 = f_X5_hashOfTrial st (f_X4_letPass bm sp ph sg st wy nt gv se tk sk p4 (20 : Int32)).2.1 (f_X4_letPass bm sp ph sg st wy nt gv se tk sk p4 (20 : Int32)).2.2.2.1 (f_X4_letPass bm sp ph sg st wy nt gv se tk sk p4 (20 : Int32)).2.2.2.2.2.1 se v := by
  unfold f_X5_hashOfTrial
  refine it_rel (P := fun (x : Int64 × (Nat → Int32) × (Nat → Int32) × (Nat → Int32)) (y : Int64) => x.1 = y) 8 (fun i x y hi hxy => ?_) 8 0 _ _ (by omega) rfl
  unfold L_X6_digest_219 L_X5_hashOfTrial_5
  refine it_rel (P := fun (x : Int64 × (Nat → Int32) × (Nat → Int32) × (Nat → Int32)) (y : Int64) => x.1 = y) 3 (fun w x y hw hxy => ?_) 3 0 _ _ (by omega) hxy
  unfold L_X6_digest_228 L_X5_hashOfTrial_15 f_X5_hashWith
  show (31 : Int64) * x.1 + (f_X6_wouldBe row x.2.2.1 x.2.2.2 (20 : Int32) i (nI w)).1.toInt64 = _
  rw [hxy, r_tried h hR p4 x.2.2.1 x.2.2.2 (20 : Int32) hi (nI w)]
theorem d_text {codes text : Nat → Int32} {len : Nat} (hl : len ≤ 60) (ht : ∀ j, j < len → codes j = text j) (v : Int64) : it (L_X6_digest_365 text) 0 len v = it (L_X5_hashOfText_16 codes len) 0 len v := by
  refine it_cg 0 len (fun j a _ hj => ?_) len 0 _ (by omega) (by omega)
  unfold L_X6_digest_365 L_X5_hashOfText_16 f_X5_hashWith f_X3_codeAt
  rw [if_neg (nI_pos (by omega)), if_neg (nI_ge hj (by omega)), nI_clamp (by omega), ht j hj]
theorem bI_long (b : Bool) : (bI (if b = true then true else false)).toInt64 = (if b = true then (1 : Int64) else (0 : Int64)) := by
  cases b
  · decide +kernel
  · decide +kernel
theorem r_digest (h : Rel (bm, sp, ph, sg, st, wy, ks, nt, gv, se, tk, kk, sk, pl, ld) row) (hR : Rng bm sp ph se) (sh : Bool) (states : Nat) {codes text : Nat → Int32} {len : Nat} (hl : len ≤ 60) (ht : ∀ j, j < len → codes j = text j) (tr p6 grp l p4 : Nat → Int32) : (f_X6_digest sh states len row tr p6 grp text).1 = (f_X5_digest sh bm sp ph sg st wy ks nt gv se tk kk sk l p4 states codes len).1 := by
  rw [dg6_eq, d_text hl ht]
  show _ = f_X5_hashOfText codes len (f_X5_hashWith (f_X5_hashWith (f_X5_hashWith (f_X5_hashWith (f_X5_hashWith (f_X5_hashOfTrial st (f_X4_letPass bm sp ph sg st wy nt gv se tk sk p4 (20 : Int32)).2.1 (f_X4_letPass bm sp ph sg st wy nt gv se tk sk p4 (20 : Int32)).2.2.2.1 (f_X4_letPass bm sp ph sg st wy nt gv se tk sk p4 (20 : Int32)).2.2.2.2.2.1 se (f_X5_hashOfParts bm sp ph sg st wy ks nt gv se ((f_X5_hashOfCounts sg st nt se tk kk sk l states (3659 : Int64)).1))) (((f_X5_ticksUntilLocked bm sp ph sg st wy ks nt gv se tk kk sk ((f_X4_letPass bm sp ph sg st wy nt gv se tk sk p4 (20 : Int32)).2.2.2.2.2.2.2.2) 0 3).1).toInt64)) (((f_X5_nextStrike bm sp ph sg st wy ks nt gv se tk kk sk ((f_X5_ticksUntilLocked bm sp ph sg st wy ks nt gv se tk kk sk ((f_X4_letPass bm sp ph sg st wy nt gv se tk sk p4 (20 : Int32)).2.2.2.2.2.2.2.2) 0 3).2.2.2.2.2.2.2.2.2.2.2.2.2.2)).1).toInt64)) (f_X5_bitsOfDouble (f_X5_stepShare nt se))) ((f_X5_bitsOfFloat (f_X5_meanGap bm ph sg)).toInt64)) (if sh = true then (1 : Int64) else (0 : Int64)))
  have eC : (dgC states row tr p6 grp).1 = f_X5_hashOfTrial st (f_X4_letPass bm sp ph sg st wy nt gv se tk sk p4 (20 : Int32)).2.1 (f_X4_letPass bm sp ph sg st wy nt gv se tk sk p4 (20 : Int32)).2.2.2.1 (f_X4_letPass bm sp ph sg st wy nt gv se tk sk p4 (20 : Int32)).2.2.2.2.2.1 se (f_X5_hashOfParts bm sp ph sg st wy ks nt gv se ((f_X5_hashOfCounts sg st nt se tk kk sk l states (3659 : Int64)).1)) := by
    unfold dgC dgB
    rw [d_counts h states grp l, d_parts h hR, d_trial h hR p4]
  unfold dg6
  rw [eC]
  have eD : f_Jxe99ae_doubleToLongBits_ccdee (FP.ddiv (FP.i2d (f_X6_greatest (dgC states row tr p6 grp).2.2.2 row).1) (4620693217682128896 : UInt64)) = f_X5_bitsOfDouble (f_X5_stepShare nt se) := by
    rw [r_great h]
    exact bits_D (step_ok h)
  have eF : f_Jxf58ca_floatToIntBits_5c35a (FP.fdiv (FP.i2f (f_X6_allGaps row)) (1077936128 : UInt32)) = f_X5_bitsOfFloat (f_X5_meanGap bm ph sg) := by
    rw [r_gaps h hR]
    exact bits_F (mean_ok h hR)
  rw [eD, eF, bI_long]
  generalize (f_X4_letPass bm sp ph sg st wy nt gv se tk sk p4 (20 : Int32)).2.2.2.2.2.2.2.2 = q4
  generalize (dgC states row tr p6 grp).2.2.1 = q6
  rw [r_locks h hR q4 q6 (by omega) (by omega) (by omega)]
  generalize (f_X5_ticksUntilLocked bm sp ph sg st wy ks nt gv se tk kk sk q4 0 3).2.2.2.2.2.2.2.2.2.2.2.2.2.2 = r4
  generalize (f_X6_lockedBehind row q6 0 3).2.2 = r6
  rw [r_soon h hR r4 r6]
  rfl
end DIGEST
