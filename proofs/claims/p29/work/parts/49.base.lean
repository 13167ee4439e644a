/-! what holds of every state: each comparison of the law's kept -/
theorem inn {v lo hi : Int64} (h1 : lo.toInt ≤ v.toInt) (h2 : v.toInt ≤ hi.toInt) : f_L_in v lo hi = true := by
  unfold f_L_in
  rw [if_neg (fun q => by have := (cmp_lt0 _ _).mp q; omega), if_neg (fun q => by have := (cmp_gt0 _ _).mp q; omega)]
theorem in_nz {v lo hi : Int64} (h : f_L_in v lo hi = true) : ¬ bI (f_L_in v lo hi) = 0 := by
  rw [h]
  decide
theorem cnt_v {w : Int32} (hw : (¬ (w < 0)) ∧ (w ≤ (9 : Int32))) (A : Ab) : countA A w = (cntV A.1 A.2.2.1.length w).toInt64 := by
  unfold countA
  rw [if_pos hw]
theorem par_v {a b : Nat} (ha : a < 8) (hb : b < 8) (hne : a ≠ b) {w : Int32} (hw : (¬ (w < 0)) ∧ (w ≤ (2 : Int32))) (A : Ab) : pairA A (nI a) (nI b) w = (parV A.1 a b w).toInt64 := by
  unfold pairA
  rw [if_pos (par_ok ha hb hne), if_pos hw, nI_clamp (by omega), nI_clamp (by omega)]
theorem bm_v {b w : Int32} (hb : f_X5_isBeam b = true) (hw : (¬ (w < 0)) ∧ (w ≤ (4 : Int32))) (A : Ab) : beamA A b w = (bmV A.1 b w).toInt64 := by
  unfold beamA
  rw [if_pos hb, if_pos hw]
theorem set_v {k : Nat} (hk : k < 3) (A : Ab) : settingA A (nI k) = (zse A.1 k).toInt64 := by
  unfold settingA
  rw [if_pos (se_ok hk), nI_clamp (by omega)]
theorem set_0 (A : Ab) : settingA A (0 : Int32) = (zse A.1 0).toInt64 := set_v (k := 0) (by omega) A
theorem set_2 (A : Ab) : settingA A (2 : Int32) = (zse A.1 2).toInt64 := set_v (k := 2) (by omega) A
theorem bm_in {v : Int32} (h : vp_in v 3) : f_X5_isBeam v = true := by
  rw [← vp_nI h]
  exact bm_ok (vp_lt h)
theorem cnt0 (A : Ab) : countA A (0 : Int32) = (ztk A.1).toInt64 := by
  rw [cnt_v (by decide)]
  unfold cntV f_X4_numberOfAll
  rw [if_pos rfl]
theorem cnt3 (A : Ab) : countA A (3 : Int32) = (f_X4_lockedPairs (znt A.1) (zse A.1)).toInt64 := by
  rw [cnt_v (by decide)]
  unfold cntV f_X4_numberOfAll
  rw [if_neg (by decide), if_neg (by decide), if_neg (by decide), if_pos rfl]
theorem cnt4 (A : Ab) : countA A (4 : Int32) = (f_X4_groupsByJoining (znt A.1) (zse A.1) Z0).1.toInt64 := by
  rw [cnt_v (by decide)]
  unfold cntV f_X4_numberOfAll
  rw [if_neg (by decide), if_neg (by decide), if_neg (by decide), if_neg (by decide), if_pos rfl]
theorem cnt5 (A : Ab) : countA A (5 : Int32) = (f_X4_groupsByWalking (znt A.1) (zse A.1)).toInt64 := by
  rw [cnt_v (by decide)]
  unfold cntV f_X4_numberOfAll
  rw [if_neg (by decide), if_neg (by decide), if_neg (by decide), if_neg (by decide), if_neg (by decide), if_pos rfl]
theorem cnt6 (A : Ab) : countA A (6 : Int32) = (f_X4_greatestGroup (znt A.1) (zse A.1)).toInt64 := by
  rw [cnt_v (by decide)]
  unfold cntV f_X4_numberOfAll
  rw [if_neg (by decide), if_neg (by decide), if_neg (by decide), if_neg (by decide), if_neg (by decide), if_neg (by decide), if_pos rfl]
theorem cnt8 (A : Ab) : countA A (8 : Int32) = (zsk A.1).toInt64 := by
  rw [cnt_v (by decide)]
  unfold cntV f_X4_numberOfAll
  rw [if_neg (by decide), if_neg (by decide), if_neg (by decide), if_neg (by decide), if_neg (by decide), if_neg (by decide), if_neg (by decide), if_neg (by decide), if_pos rfl]
theorem cnt9 (A : Ab) : countA A (9 : Int32) = (nI A.2.2.1.length).toInt64 := by
  rw [cnt_v (by decide)]
  unfold cntV f_X4_numberOfAll
  rw [if_neg (by decide), if_neg (by decide), if_neg (by decide), if_neg (by decide), if_neg (by decide), if_neg (by decide), if_neg (by decide), if_neg (by decide), if_neg (by decide)]
theorem clkV_0 (z : StT) (k : Nat) : clkV z k (0 : Int32) = zbm z k := by
  unfold clkV f_X4_numberOfClock
  rw [if_pos rfl]
theorem clkV_3 (z : StT) (k : Nat) : clkV z k (3 : Int32) = zsg z k := by
  unfold clkV f_X4_numberOfClock
  rw [if_neg (by decide), if_neg (by decide), if_neg (by decide), if_pos rfl]
theorem clkV_5 (z : StT) (k : Nat) : clkV z k (5 : Int32) = f_X4_pullOf (zbm z) (zph z) (zsg z) (zgv z) (zse z) k := by
  unfold clkV f_X4_numberOfClock
  rw [if_neg (by decide), if_neg (by decide), if_neg (by decide), if_neg (by decide), if_neg (by decide), if_pos rfl]
theorem clkV_6 (z : StT) (k : Nat) : clkV z k (6 : Int32) = zwy z k := by
  unfold clkV f_X4_numberOfClock
  rw [if_neg (by decide), if_neg (by decide), if_neg (by decide), if_neg (by decide), if_neg (by decide), if_neg (by decide), if_pos rfl]
theorem clkV_7 (z : StT) (k : Nat) : clkV z k (7 : Int32) = zks z k := by
  unfold clkV f_X4_numberOfClock
  rw [if_neg (by decide), if_neg (by decide), if_neg (by decide), if_neg (by decide), if_neg (by decide), if_neg (by decide), if_neg (by decide), if_pos rfl]
theorem clkV_8 (z : StT) (k : Nat) : clkV z k (8 : Int32) = f_X4_lockedMask (znt z) (zse z) k := by
  unfold clkV f_X4_numberOfClock
  rw [if_neg (by decide), if_neg (by decide), if_neg (by decide), if_neg (by decide), if_neg (by decide), if_neg (by decide), if_neg (by decide), if_neg (by decide), if_pos rfl]
theorem clkV_9 (z : StT) (k : Nat) : clkV z k (9 : Int32) = f_X4_lowestOfGroup (znt z) (zse z) k := by
  unfold clkV f_X4_numberOfClock
  rw [if_neg (by decide), if_neg (by decide), if_neg (by decide), if_neg (by decide), if_neg (by decide), if_neg (by decide), if_neg (by decide), if_neg (by decide), if_neg (by decide), if_pos rfl]
theorem parV_0 (z : StT) (k j : Nat) : parV z k j (0 : Int32) = f_X4_gapFrom (zph z) k j := by
  unfold parV f_X4_numberOfPair
  rw [if_pos rfl]
theorem parV_1 (z : StT) (k j : Nat) : parV z k j (1 : Int32) = znt z (k * 8 + j) := by
  unfold parV f_X4_numberOfPair
  rw [if_neg (by decide), if_pos rfl]
theorem parV_2 (z : StT) (k j : Nat) : parV z k j (2 : Int32) = f_X4_whyNotLocked (zbm z) (zph z) (zsg z) (znt z) (zse z) k j := by
  unfold parV f_X4_numberOfPair
  rw [if_neg (by decide), if_neg (by decide)]
theorem bmV_1 (z : StT) (b : Int32) : bmV z b (1 : Int32) = f_X4_maskOfBeam (zbm z) b := by
  unfold bmV f_X4_numberOfBeam
  rw [if_neg (by decide), if_pos rfl]
theorem bmV_2 (z : StT) (b : Int32) : bmV z b (2 : Int32) = f_X4_maskOfBeam (zbm z) b &&& f_X4_goingMask (zsg z) := by
  unfold bmV f_X4_numberOfBeam
  rw [if_neg (by decide), if_neg (by decide), if_pos rfl]
theorem bmV_4 (z : StT) (b : Int32) : bmV z b (4 : Int32) = f_X4_widestGap (zbm z) (zph z) (zsg z) b := by
  unfold bmV f_X4_numberOfBeam
  rw [if_neg (by decide), if_neg (by decide), if_neg (by decide), if_neg (by decide)]
theorem ck_0 {k : Nat} (hk : k < 8) (A : Ab) : clockA A (nI k) (0 : Int32) = (clkV A.1 k (0 : Int32)).toInt64 := clk_v hk (by decide) A
theorem ck_2 {k : Nat} (hk : k < 8) (A : Ab) : clockA A (nI k) (2 : Int32) = (clkV A.1 k (2 : Int32)).toInt64 := clk_v hk (by decide) A
theorem ck_3 {k : Nat} (hk : k < 8) (A : Ab) : clockA A (nI k) (3 : Int32) = (clkV A.1 k (3 : Int32)).toInt64 := clk_v hk (by decide) A
theorem ck_4 {k : Nat} (hk : k < 8) (A : Ab) : clockA A (nI k) (4 : Int32) = (clkV A.1 k (4 : Int32)).toInt64 := clk_v hk (by decide) A
theorem ck_5 {k : Nat} (hk : k < 8) (A : Ab) : clockA A (nI k) (5 : Int32) = (clkV A.1 k (5 : Int32)).toInt64 := clk_v hk (by decide) A
theorem ck_6 {k : Nat} (hk : k < 8) (A : Ab) : clockA A (nI k) (6 : Int32) = (clkV A.1 k (6 : Int32)).toInt64 := clk_v hk (by decide) A
theorem ck_7 {k : Nat} (hk : k < 8) (A : Ab) : clockA A (nI k) (7 : Int32) = (clkV A.1 k (7 : Int32)).toInt64 := clk_v hk (by decide) A
theorem ck_8 {k : Nat} (hk : k < 8) (A : Ab) : clockA A (nI k) (8 : Int32) = (clkV A.1 k (8 : Int32)).toInt64 := clk_v hk (by decide) A
theorem ck_9 {k : Nat} (hk : k < 8) (A : Ab) : clockA A (nI k) (9 : Int32) = (clkV A.1 k (9 : Int32)).toInt64 := clk_v hk (by decide) A
theorem ck_10 {k : Nat} (hk : k < 8) (A : Ab) : clockA A (nI k) (10 : Int32) = (clkV A.1 k (10 : Int32)).toInt64 := clk_v hk (by decide) A
def stS (st : Nat → Int32) : Nat → Int64
  | 0 => 0
  | k + 1 => stS st k + (st k).toInt64
section KEPT
variable {bb : Nat} {A : Ab}
theorem k_45 (h : IA bb A) : lg_cmp (countA A (4 : Int32)) (countA A (5 : Int32)) = 0 := by
  rw [cnt4, cnt5]
  obtain ⟨g, _, e1, e2⟩ := lows_eq (se := zse A.1) h.ns
  rw [e1, e2]
  exact lg_self _
theorem k_6 : f_L_in (countA A (6 : Int32)) (1 : Int64) (8 : Int64) = true := by
  obtain ⟨n, n1, n2, n3⟩ := great_rng (nt := znt A.1) (se := zse A.1)
  have z1 : (1 : Int64).toInt = 1 := by decide +kernel
  have z8 : (8 : Int64).toInt = 8 := by decide +kernel
  rw [cnt6, n3]
  refine inn ?_ ?_ <;> rw [l_i, nI_toInt (by omega)] <;> omega
theorem k_81 (hb : bb ≤ 900000) (h : IA bb A) : ¬ 0 < lg_cmp (countA A (8 : Int32)) (countA A (1 : Int32)) := by
  rw [cnt8, cnt1]
  intro q
  have q := (cmp_gt0 _ _).mp q
  rw [l_i, l_i, strikes_toInt (b := bb) (by omega) (st_rng h.1)] at q
  have := h.1.2.2.2.2.2.2.2.2.2
  omega
theorem k_80 (h : IA bb A) : ¬ 0 < lg_cmp (countA A (8 : Int32)) (countA A (0 : Int32)) := by
  rw [cnt8, cnt0]
  intro q
  have q := (cmp_gt0 _ _).mp q
  rw [l_i, l_i] at q
  have := h.1.2.2.2.2.2.2.2.2.1
  omega
theorem k_9 (h : IA bb A) : f_L_in (countA A (9 : Int32)) (0 : Int64) (6 : Int64) = true := by
  have h6 := h.2.2.2.1
  have z0 : (0 : Int64).toInt = 0 := rfl
  have z6 : (6 : Int64).toInt = 6 := by decide +kernel
  rw [cnt9]
  refine inn ?_ ?_ <;> rw [l_i, nI_toInt (by omega)] <;> omega
theorem b_dis {i : Nat} (hi : i < 3) : lg_cmp ((um (zbm A.1) i).toInt64 &&& beamA A (nI i) (1 : Int32)) (0 : Int64) = 0 := by
  rw [bm_v (bm_ok hi) (by decide), bmV_1]
  exact lg_eq.mpr (um_dis _ hi)
theorem b_sub {i : Nat} (hi : i < 3) : lg_cmp (beamA A (nI i) (2 : Int32) &&& (beamA A (nI i) (1 : Int32) ^^^ (-1 : Int64))) (0 : Int64) = 0 := by
  rw [bm_v (bm_ok hi) (by decide), bm_v (bm_ok hi) (by decide), bmV_1, bmV_2]
  exact lg_eq.mpr (go_sub _ _ _)
theorem b_wid (h : IA bb A) {i : Nat} (hi : i < 3) : f_L_in (beamA A (nI i) (4 : Int32)) (0 : Int64) (500 : Int64) = true := by
  rw [bm_v (bm_ok hi) (by decide), bmV_4]
  have r := widest_rng (fun k hk => (h.1.2.2.1 k hk).1) (zbm A.1) (zsg A.1) (nI i)
  have z0 : (0 : Int64).toInt = 0 := rfl
  have z5 : (500 : Int64).toInt = 500 := by decide +kernel
  refine inn ?_ ?_ <;> rw [l_i] <;> omega
theorem b_or {i : Nat} (hi : i < 3) : um (zbm A.1) i ||| (beamA A (nI i) (1 : Int32)).toInt32 = um (zbm A.1) (i + 1) := by
  rw [bm_v (bm_ok hi) (by decide), bmV_1, Int32.toInt32_toInt64]
  rfl
theorem s_st {k : Nat} (hk : k < 8) : stS (zst A.1) k + clockA A (nI k) (4 : Int32) = stS (zst A.1) (k + 1) := by
  rw [ck_4 hk, clkV_4]
  rfl
theorem r_lo {k : Nat} (hk : k < 8) {g : Nat → Nat} (hg : ∀ k, k < 8 → f_X4_lowestOfGroup (znt A.1) (zse A.1) k = nI (g k) ∧ g k < 8) : lg_cmp (clockA A (nI k) (9 : Int32)) ((nI k).toInt64) = 0 ↔ g k = k := by
  rw [ck_9 hk, clkV_9, (hg k hk).1, lg_eq, i_inj]
  exact nI_eq (by have := (hg k hk).2; omega) (by omega)
theorem c_on {B : Nat → Bool} {k : Nat} (h : B k = true) (D : Nat) : D + cnt B 0 k + 1 = D + cnt B 0 (k + 1) := by
  rw [cnt_snoc, Nat.zero_add, h]
  rfl
theorem c_off {B : Nat → Bool} {k : Nat} (h : B k = false) (D : Nat) : D + cnt B 0 k = D + cnt B 0 (k + 1) := by
  rw [cnt_snoc, Nat.zero_add, h]
  rfl
theorem c_of0 {B : Nat → Bool} {k : Nat} (h : B k = false) (D : Nat) : D + cnt B 0 k + 0 = D + cnt B 0 (k + 1) := c_off h D
theorem lo_on {g : Nat → Nat} {k : Nat} (h : g k = k) : cnt (fun j => decide (g j = j)) 0 k + 1 = cnt (fun j => decide (g j = j)) 0 (k + 1) := by
  rw [cnt_snoc, Nat.zero_add, show decide (g k = k) = true from decide_eq_true h]
  rfl
theorem lo_off {g : Nat → Nat} {k : Nat} (h : ¬ g k = k) : cnt (fun j => decide (g j = j)) 0 k + 0 = cnt (fun j => decide (g j = j)) 0 (k + 1) := by
  rw [cnt_snoc, Nat.zero_add, show decide (g k = k) = false from decide_eq_false h]
  rfl
theorem f_ph9 (h : IA bb A) {k : Nat} (hk : k < 8) : f_L_in (clockA A (nI k) (2 : Int32)) (0 : Int64) (999 : Int64) = true := by
  rw [ck_2 hk, clkV_2]
  have r := (h.1.2.2.1 k hk).1
  have z0 : (0 : Int64).toInt = 0 := rfl
  have z9 : (999 : Int64).toInt = 999 := by decide +kernel
  refine inn ?_ ?_ <;> rw [l_i] <;> omega
theorem f_way (hb : bb ≤ 900000) (h : IA bb A) {k : Nat} (hk : k < 8) : (((100 : Int64) * (nI k).toInt64 + clockA A (nI k) (6 : Int32)) + clockA A (nI k) (7 : Int32)) - clockA A (nI k) (2 : Int32) - ((((100 : Int64) * (nI k).toInt64 + clockA A (nI k) (6 : Int32)) + clockA A (nI k) (7 : Int32)) - clockA A (nI k) (2 : Int32)) / (1000 : Int64) * (1000 : Int64) = 0 := by
  rw [ck_6 hk, ck_7 hk, ck_2 hk, clkV_6, clkV_7, clkV_2]
  obtain ⟨c1, c2, c3, c4, c5, c, c6⟩ := h.1.2.2.1 k hk
  have z1 : (100 : Int64).toInt = 100 := by decide +kernel
  have e1 : ((100 : Int64) * (nI k).toInt64).toInt = 100 * (k : Int) := l_mul (by rw [z1, l_i, nI_toInt (by omega)]) (by omega) (by omega)
  have e2 : ((100 : Int64) * (nI k).toInt64 + (zwy A.1 k).toInt64).toInt = 100 * (k : Int) + (zwy A.1 k).toInt := by
    rw [l_add (by rw [e1, l_i]; omega) (by rw [e1, l_i]; omega), e1, l_i]
  have e3 : ((100 : Int64) * (nI k).toInt64 + (zwy A.1 k).toInt64 + (zks A.1 k).toInt64).toInt = 100 * (k : Int) + (zwy A.1 k).toInt + (zks A.1 k).toInt := by
    rw [l_add (by rw [e2, l_i]; omega) (by rw [e2, l_i]; omega), e2, l_i]
  refine lrem0 (c := c) ?_
  rw [l_sub (by rw [e3, l_i]; omega) (by rw [e3, l_i]; omega), e3, l_i]
  exact c6
theorem f_sp (h : IA bb A) {k : Nat} (hk : k < 8) : f_L_in (clockA A (nI k) (3 : Int32)) (0 : Int64) (99 : Int64) = true := by
  rw [ck_3 hk, clkV_3]
  have r := (h.1.2.2.1 k hk).2.1
  have z0 : (0 : Int64).toInt = 0 := rfl
  have z9 : (99 : Int64).toInt = 99 := by decide +kernel
  refine inn ?_ ?_ <;> rw [l_i] <;> omega
theorem f_pl (h : IA bb A) {k : Nat} (hk : k < 8) : f_L_in (clockA A (nI k) (5 : Int32)) (-(settingA A (0 : Int32))) (settingA A (0 : Int32)) = true := by
  rw [ck_5 hk, clkV_5, set_0]
  have hs := h.1.2.2.2.2.2.1.1
  have r := pull_rng (zbm A.1) (zph A.1) (zsg A.1) (zgv A.1) (zse A.1) hs k
  refine inn ?_ ?_
  · rw [l_neg (by rw [l_i]; omega), l_i, l_i]
    omega
  · rw [l_i, l_i]
    omega
theorem f_still {k : Nat} (hk : k < 8) (hq : ¬ 0 < lg_cmp (clockA A (nI k) (3 : Int32)) (0 : Int64)) : lg_cmp (clockA A (nI k) (5 : Int32)) (0 : Int64) = 0 := by
  rw [ck_3 hk, clkV_3] at hq
  rw [ck_5 hk, clkV_5]
  have e : f_X4_goes (zsg A.1) k = false := by
    cases c : f_X4_goes (zsg A.1) k
    · rfl
    · refine absurd ((cmp_gt0 _ _).mpr ?_) hq
      rw [l_i]
      exact (goes_iff _ _).mp c
  rw [pull_no _ _ _ _ _ e]
  decide +kernel
theorem f_self {k : Nat} (hk : k < 8) : lg_cmp ((clockA A (nI k) (10 : Int32) >>> ((nI k).toInt64 &&& 63)) &&& (1 : Int64)) (1 : Int64) = 0 := by
  rw [ck_10 hk, clkV_10, lbt (gm_hi hk) hk, gm_self hk]
  decide +kernel
theorem f_lsub {k : Nat} (hk : k < 8) : lg_cmp (clockA A (nI k) (8 : Int32) &&& (clockA A (nI k) (10 : Int32) ^^^ (-1 : Int64))) (0 : Int64) = 0 := by
  rw [ck_10 hk, clkV_10, ck_8 hk, clkV_8]
  exact lg_eq.mpr (msk_sub (lm_sub hk))
theorem f_lno {k : Nat} (hk : k < 8) : lg_cmp ((clockA A (nI k) (8 : Int32) >>> ((nI k).toInt64 &&& 63)) &&& (1 : Int64)) (0 : Int64) = 0 := by
  rw [ck_8 hk, clkV_8, lbt (lm_hi _ _ _) hk, lm_no]
  decide +kernel
theorem f_bmk {k : Nat} (hk : k < 8) : (clockA A (nI k) (0 : Int32)).toInt32 = zbm A.1 k := by
  rw [ck_0 hk, clkV_0, Int32.toInt32_toInt64]
theorem f_hangs (h : IA bb A) {k : Nat} (hk : k < 8) : lg_cmp ((beamA A (zbm A.1 k) (1 : Int32) >>> ((nI k).toInt64 &&& 63)) &&& (1 : Int64)) (1 : Int64) = 0 := by
  rw [bm_v (bm_in (h.1.1 k hk)) (by decide), bmV_1, lbt (mb_hi _ _) hk, (bt_mb _ _ _).mpr ⟨hk, rfl⟩]
  decide +kernel
theorem p_lk {a b : Nat} (ha : a < 8) (hb : b < 8) (hne : a ≠ b) : lg_cmp ((clockA A (nI a) (8 : Int32) >>> ((nI b).toInt64 &&& 63)) &&& (1 : Int64)) (1 : Int64) = 0 ↔ AL (znt A.1) (zse A.1) a b = true := by
  rw [ck_8 ha, clkV_8, lbt (lm_hi _ _ _) hb, lm_at hb hne, lg_eq, bI_l1, AL_ne hne]
theorem p_gap {a b : Nat} (ha : a < 8) (hb : b < 8) (hne : a ≠ b) (h : IA bb A) : f_L_in (pairA A (nI a) (nI b) (0 : Int32)) (-500 : Int64) (499 : Int64) = true := by
  rw [par_v ha hb hne (by decide), parV_0]
  have hp := fun k hk => (h.1.2.2.1 k hk).1
  have e := gap_toInt hp ha hb
  have h1 := hp a ha
  have h2 := hp b hb
  have z1 : (-500 : Int64).toInt = -500 := by decide +kernel
  have z2 : (499 : Int64).toInt = 499 := by decide +kernel
  refine inn ?_ ?_ <;> rw [l_i, e] <;> (repeat' split) <;> omega
theorem p_anti {a b : Nat} (ha : a < 8) (hb : b < 8) (hne : a ≠ b) (h : IA bb A) (hq : ¬ lg_cmp (pairA A (nI a) (nI b) (0 : Int32)) (-(pairA A (nI b) (nI a) (0 : Int32))) = 0) : lg_cmp (pairA A (nI a) (nI b) (0 : Int32)) (-500 : Int64) = 0 ∧ lg_cmp (pairA A (nI b) (nI a) (0 : Int32)) (-500 : Int64) = 0 := by
  rw [par_v ha hb hne (by decide), parV_0, par_v hb ha (fun q => hne q.symm) (by decide), parV_0] at hq ⊢
  have hp := fun k hk => (h.1.2.2.1 k hk).1
  have e := gap_anti hp ha hb
  have z1 : (-500 : Int64).toInt = -500 := by decide +kernel
  have r1 := (f_X4_gapFrom (zph A.1) b a).le_toInt
  have r2 := (f_X4_gapFrom (zph A.1) b a).toInt_lt
  rcases e with e | ⟨e1, e2⟩
  · refine absurd (lg_eq.mpr (Int64.toInt_inj.mp ?_)) hq
    rw [l_neg (by rw [l_i]; omega), l_i, l_i]
    exact e
  · exact ⟨lg_eq.mpr (Int64.toInt_inj.mp (by rw [l_i, z1]; exact e1)), lg_eq.mpr (Int64.toInt_inj.mp (by rw [l_i, z1]; exact e2))⟩
theorem p_cong {a b : Nat} (ha : a < 8) (hb : b < 8) (hne : a ≠ b) (h : IA bb A) : clockA A (nI b) (2 : Int32) - clockA A (nI a) (2 : Int32) - pairA A (nI a) (nI b) (0 : Int32) - (clockA A (nI b) (2 : Int32) - clockA A (nI a) (2 : Int32) - pairA A (nI a) (nI b) (0 : Int32)) / (1000 : Int64) * (1000 : Int64) = 0 := by
  rw [par_v ha hb hne (by decide), parV_0, ck_2 ha, ck_2 hb, clkV_2, clkV_2]
  have hp := fun k hk => (h.1.2.2.1 k hk).1
  obtain ⟨c, e⟩ := gap_cong hp ha hb
  have h1 := hp a ha
  have h2 := hp b hb
  have r1 := (f_X4_gapFrom (zph A.1) a b).le_toInt
  have r2 := (f_X4_gapFrom (zph A.1) a b).toInt_lt
  have e1 : ((zph A.1 b).toInt64 - (zph A.1 a).toInt64).toInt = (zph A.1 b).toInt - (zph A.1 a).toInt := by
    rw [l_sub (by rw [l_i, l_i]; omega) (by rw [l_i, l_i]; omega), l_i, l_i]
  refine lrem0 (c := c) ?_
  rw [l_sub (by rw [e1, l_i]; omega) (by rw [e1, l_i]; omega), e1, l_i]
  exact e
theorem p_near {a b : Nat} (ha : a < 8) (hb : b < 8) (hne : a ≠ b) (h : IA bb A) : lg_cmp (pairA A (nI a) (nI b) (1 : Int32)) (pairA A (nI b) (nI a) (1 : Int32)) = 0 := by
  rw [par_v ha hb hne (by decide), parV_1, par_v hb ha (fun q => hne q.symm) (by decide), parV_1, h.ns a b ha hb]
  exact lg_self _
theorem p_why {a b : Nat} (ha : a < 8) (hb : b < 8) (hne : a ≠ b) : lg_cmp (pairA A (nI a) (nI b) (2 : Int32)) (0 : Int64) = 0 ↔ AL (znt A.1) (zse A.1) a b = true := by
  rw [par_v ha hb hne (by decide), parV_2, lg_eq, AL_ne hne]
  have e : (0 : Int64) = (0 : Int32).toInt64 := by decide +kernel
  rw [e, i_inj]
  exact why_0
theorem p_ge {a b : Nat} (ha : a < 8) (hb : b < 8) (hne : a ≠ b) : lg_cmp (pairA A (nI a) (nI b) (1 : Int32)) (settingA A (2 : Int32)) < 0 ↔ ¬ AL (znt A.1) (zse A.1) a b = true := by
  rw [par_v ha hb hne (by decide), parV_1, set_2, AL_ne hne, lk_ge, cmp_lt0, l_i, l_i]
  omega
theorem p_gm {a b : Nat} (ha : a < 8) (hb : b < 8) (hne : a ≠ b) (h : IA bb A) : lg_cmp (clockA A (nI b) (10 : Int32)) (clockA A (nI a) (10 : Int32)) = 0 ↔ lg_cmp ((clockA A (nI a) (10 : Int32) >>> ((nI b).toInt64 &&& 63)) &&& (1 : Int64)) (1 : Int64) = 0 := by
  rw [ck_10 ha, ck_10 hb, clkV_10, clkV_10, lg_eq, i_inj, lbt (gm_hi ha) hb, lg_eq, bI_l1]
  exact gm_eqv h.ns ha hb
theorem e_st (hb : bb ≤ 900000) (h : IA bb A) : lg_cmp (stS (zst A.1) 8) (countA A (1 : Int32)) = 0 := by
  rw [cnt1]
  have r := st_rng h.1
  have e : ∀ k, k ≤ 8 → (0 ≤ (stS (zst A.1) k).toInt ∧ (stS (zst A.1) k).toInt ≤ k * (bb : Int)) := by
    intro k
    induction k with
    | zero => intro _; have z : (stS (zst A.1) 0).toInt = 0 := rfl; rw [z]; omega
    | succ k ih =>
      intro hk
      have h1 := ih (by omega)
      have h2 := r k (by omega)
      have h3 : (k : Int) * (bb : Int) ≤ 8 * 900000 := by
        have : k * bb ≤ 8 * 900000 := Nat.mul_le_mul (by omega) hb
        omega
      have h4 : ((k + 1 : Nat) : Int) * (bb : Int) = (k : Int) * (bb : Int) + (bb : Int) := by
        rw [Int.natCast_add, Int.add_mul]
        omega
      rw [h4]
      show 0 ≤ (stS (zst A.1) k + (zst A.1 k).toInt64).toInt ∧ (stS (zst A.1) k + (zst A.1 k).toInt64).toInt ≤ _
      rw [l_add (by rw [l_i]; omega) (by rw [l_i]; omega), l_i]
      omega
  have s : ∀ k, k < 8 → (stS (zst A.1) (k + 1)).toInt = (stS (zst A.1) k).toInt + (zst A.1 k).toInt := by
    intro k hk
    have h1 := e k (by omega)
    have h2 := r k hk
    have h3 : (k : Int) * (bb : Int) ≤ 8 * 900000 := by
      have : k * bb ≤ 8 * 900000 := Nat.mul_le_mul (by omega) hb
      omega
    show (stS (zst A.1) k + (zst A.1 k).toInt64).toInt = _
    rw [l_add (by rw [l_i]; omega) (by rw [l_i]; omega), l_i]
  refine lg_eq.mpr (Int64.toInt_inj.mp ?_)
  rw [l_i, strikes_toInt (b := bb) (by omega) r, s 7 (by omega), s 6 (by omega), s 5 (by omega), s 4 (by omega), s 3 (by omega), s 2 (by omega), s 1 (by omega), s 0 (by omega)]
  unfold sum8
  have z : (stS (zst A.1) 0).toInt = 0 := rfl
  omega
theorem dsum_le (B : Nat → Nat → Bool) : ∀ n, dsum B n ≤ 8 * n
  | 0 => Nat.le_refl _
  | n + 1 => by
    have h1 := dsum_le B n
    have h2 := cnt_le (B n) 8 0
    show dsum B n + cnt (B n) 0 8 ≤ _
    omega
theorem e_pr (h : IA bb A) : lg_cmp ((2 : Int64) * countA A (3 : Int32)) ((nI (dsum (AL (znt A.1) (zse A.1)) 8)).toInt64) = 0 := by
  rw [cnt3, lpairs_eq]
  have e := dsum_eq (A := AL (znt A.1) (zse A.1)) (AL_sy h.ns) AL_no
  have l := dsum_le (AL (znt A.1) (zse A.1)) 8
  generalize dsum (AL (znt A.1) (zse A.1)) 8 = d at e l
  generalize psum (AL (znt A.1) (zse A.1)) 8 = q at e
  have z : (2 : Int64).toInt = 2 := by decide +kernel
  refine lg_eq.mpr (Int64.toInt_inj.mp ?_)
  rw [l_mul (c := 2 * (q : Int)) (by rw [z, l_i, nI_toInt (by omega)]) (by omega) (by omega), l_i, nI_toInt (by omega)]
  omega
theorem e_lo {g : Nat → Nat} (hg : ∀ l, (f_X4_groupsByJoining (znt A.1) (zse A.1) l).1 = nI (cnt (fun k => decide (g k = k)) 0 8)) : lg_cmp (countA A (4 : Int32)) ((nI (cnt (fun k => decide (g k = k)) 0 8)).toInt64) = 0 := by
  rw [cnt4, hg]
  exact lg_self _
end KEPT
