/-! what would be is so when it is done: each comparison of the law -/
/-- the same but for what is saved -/
def BK (b : Nat) (A B : Ab) : Prop := B.1 = A.1 ∧ B.2.1 = A.2.1 ∧ B.2.2.2 = A.2.2.2 ∧ IA b B
theorem tk_ok {n : Nat} (h1 : 1 ≤ n) (h2 : n ≤ 200) : f_X5_areTicksOfACall (nI n) = true := by
  unfold f_X5_areTicksOfACall
  have e1 : (1 : Int32) = nI 1 := rfl
  have e2 : (200 : Int32) = nI 200 := rfl
  rw [e1, e2, if_neg (nI_nlt h1 (by omega)), if_neg (nI_nlt h2 (by omega))]
theorem osz_of {o : Ob} {A : Ab} (h : aob o = A) : osz o = A.2.2.1.length := by
  rw [← h]
  exact (hsL_len _ _).symm
theorem push_pos (h : List StT) (z : StT) : 1 ≤ (pushL h z).length := by
  unfold pushL
  rw [List.length_append]
  exact Nat.le_add_left _ _
section FOL
variable {bb : Nat} {A B : Ab}
theorem pass_v {n : Nat} (h1 : 1 ≤ n) (h2 : n ≤ 200) : passA A (nI n) = ((tkc n A.1).toInt64, newA A (tks n A.1)) := by
  unfold passA
  rw [if_pos (tk_ok h1 h2), nI_clamp (by omega)]
theorem push_IA (h : IA bb B) : ∀ x, x ∈ pushL B.2.2.1 B.1 → IZ bb x := fun x hx => by
  rcases push_mem hx with q | q
  · exact h.2.2.1 x q
  · rw [q]; exact h.1
theorem push_le (h : B.2.2.1.length ≤ 6) (z : StT) : (pushL B.2.2.1 z).length ≤ 6 := by
  rw [push_len h]
  split <;> omega
theorem bk_back (h : BK bb A B) : BK bb A (B.1, B.2.1, (pushL B.2.2.1 B.1).dropLast, B.2.2.2) := by
  obtain ⟨h1, h2, h3, h4⟩ := h
  refine ⟨h1, h2, h3, h4.1, h4.2.1, fun x hx => push_IA h4 x ((List.dropLast_sublist _).subset hx), ?_, h4.2.2.2.2⟩
  show (pushL B.2.2.1 B.1).dropLast.length ≤ 6
  rw [List.length_dropLast]
  have := push_le h4.2.2.2.1 B.1
  omega
theorem undo_ge (h : IA bb B) : ¬ lg_cmp (nI (pushL B.2.2.1 B.1).dropLast.length).toInt64 0 < 0 := by
  refine lg_nlt ?_
  rw [List.length_dropLast]
  have := push_le h.2.2.2.1 B.1
  rw [nI_toInt (by omega)]
  omega
theorem pass_ge (hb : bb ≤ 900000) (h : IA bb B) {n : Nat} (hn : n ≤ 200) : ¬ lg_cmp (tkc n B.1).toInt64 0 < 0 := lg_nlt (IZ_tks n bb (by omega) h.1).2.1.1
theorem st_rng {b : Nat} {z : StT} (h : IZ b z) : ∀ k, k < 8 → 0 ≤ (zst z k).toInt ∧ (zst z k).toInt ≤ (b : Int) := fun k hk => (h.2.2.1 k hk).2.2.1
theorem cnt1 (A : Ab) : countA A (1 : Int32) = (f_X4_strikesOfAll (zst A.1)).toInt64 := by
  unfold countA
  rw [if_pos (by decide)]
  rfl
theorem f_cnt (hb : bb ≤ 900000) (h : IA bb A) {n : Nat} (hn : n ≤ 200) : lg_cmp (tkc n A.1).toInt64 (countA (newA A (tks n A.1)) (1 : Int32) - countA A (1 : Int32)) = 0 := by
  obtain ⟨t1, t2, t3⟩ := IZ_tks n bb (by omega) h.1
  refine lg_eq.mpr ?_
  rw [cnt1, cnt1]
  have e1 := strikes_toInt (b := bb + n) (by omega) (st_rng t1)
  have e2 := strikes_toInt (b := bb) (by omega) (st_rng h.1)
  show _ = (f_X4_strikesOfAll (zst (tks n A.1))).toInt64 - _
  apply Int64.toInt_inj.mp
  have r1 := (f_X4_strikesOfAll (zst (tks n A.1))).toInt_lt
  have r2 := (f_X4_strikesOfAll (zst (tks n A.1))).le_toInt
  have r3 := (f_X4_strikesOfAll (zst A.1)).toInt_lt
  have r4 := (f_X4_strikesOfAll (zst A.1)).le_toInt
  rw [l_sub (by rw [l_i, l_i]; omega) (by rw [l_i, l_i]; omega), l_i, l_i, l_i, e1, e2]
  omega
theorem clk_v {k : Nat} (hk : k < 8) {w : Int32} (hw : (¬ (w < 0)) ∧ (w ≤ (10 : Int32))) (A : Ab) : clockA A (nI k) w = (clkV A.1 k w).toInt64 := by
  unfold clockA
  rw [if_pos (clk_ok hk), if_pos hw, nI_clamp (by omega)]
theorem if_v {n k : Nat} (h1 : 1 ≤ n) (h2 : n ≤ 200) (hk : k < 8) {w : Int32} (hw : (¬ (w < 0)) ∧ (w ≤ (2 : Int32))) (A : Ab) : ifPA A (nI n) (nI k) w = (ifV A.1 n k w).toInt64 := by
  unfold ifPA
  rw [if_pos (clk_ok hk), if_pos (tk_ok h1 h2), if_pos hw, nI_clamp (by omega), nI_clamp (by omega)]
theorem clkV_2 (z : StT) (k : Nat) : clkV z k (2 : Int32) = zph z k := rfl
theorem clkV_4 (z : StT) (k : Nat) : clkV z k (4 : Int32) = zst z k := rfl
theorem clkV_10 (z : StT) (k : Nat) : clkV z k (10 : Int32) = f_X4_groupMask (znt z) (zse z) k := by
  unfold clkV f_X4_numberOfClock
  rw [if_neg (by decide), if_neg (by decide), if_neg (by decide), if_neg (by decide), if_neg (by decide), if_neg (by decide), if_neg (by decide), if_neg (by decide), if_neg (by decide), if_neg (by decide)]
theorem trV_0 (a b c d e : Nat → Int32) (k : Nat) : f_X5_triedNumber a b c d e k (0 : Int32) = b k := rfl
theorem trV_1 (a b c d e : Nat → Int32) (k : Nat) : f_X5_triedNumber a b c d e k (1 : Int32) = c k - a k := rfl
theorem trV_2 (a b c d e : Nat → Int32) (k : Nat) : f_X5_triedNumber a b c d e k (2 : Int32) = f_X4_groupMask d e k := by
  unfold f_X5_triedNumber
  rw [if_neg (by decide), if_neg (by decide)]
theorem ifV_0 (z : StT) (n k : Nat) : ifV z n k (0 : Int32) = zph (tks n z) k := by unfold ifV; exact trV_0 _ _ _ _ _ _
theorem ifV_1 (z : StT) (n k : Nat) : ifV z n k (1 : Int32) = zst (tks n z) k - zst z k := by unfold ifV; exact trV_1 _ _ _ _ _ _
theorem ifV_2 (z : StT) (n k : Nat) : ifV z n k (2 : Int32) = f_X4_groupMask (znt (tks n z)) (zse z) k := by unfold ifV; exact trV_2 _ _ _ _ _ _
theorem new_1 (A : Ab) (z : StT) : (newA A z).1 = z := rfl
theorem tick_se (z : StT) : zse (tickZ z).2 = zse z := rfl
theorem tks_se : ∀ (n : Nat) (z : StT), zse (tks n z) = zse z
  | 0, _ => rfl
  | n + 1, z => by
    rw [tks_s, tks_se n (tickZ z).2]
    rfl
theorem f_ph {n a : Nat} (h1 : 1 ≤ n) (h2 : n ≤ 200) (ha : a < 8) : lg_cmp (clockA (newA A (tks n A.1)) (nI a) (2 : Int32)) (ifPA A (nI n) (nI a) (0 : Int32)) = 0 := by
  rw [clk_v ha (by decide), if_v h1 h2 ha (by decide), new_1, clkV_2, ifV_0]
  exact lg_self _
theorem f_st (hb : bb ≤ 900000) (h : IA bb A) {n a : Nat} (h1 : 1 ≤ n) (h2 : n ≤ 200) (ha : a < 8) : lg_cmp (clockA (newA A (tks n A.1)) (nI a) (4 : Int32)) (clockA A (nI a) (4 : Int32) + ifPA A (nI n) (nI a) (1 : Int32)) = 0 := by
  rw [clk_v ha (by decide), clk_v ha (by decide), if_v h1 h2 ha (by decide), new_1, clkV_4, clkV_4, ifV_1]
  refine lg_eq.mpr ?_
  have r1 := st_rng (IZ_tks n bb (by omega) h.1).1 a ha
  have r2 := st_rng h.1 a ha
  have e : (zst (tks n A.1) a - zst A.1 a).toInt = (zst (tks n A.1) a).toInt - (zst A.1 a).toInt := sub_toInt (by omega) (by omega)
  apply Int64.toInt_inj.mp
  rw [l_add (by rw [l_i, l_i]; omega) (by rw [l_i, l_i]; omega), l_i, l_i, l_i, e]
  omega
theorem f_gm {n a : Nat} (h1 : 1 ≤ n) (h2 : n ≤ 200) (ha : a < 8) : lg_cmp (clockA (newA A (tks n A.1)) (nI a) (10 : Int32)) (ifPA A (nI n) (nI a) (2 : Int32)) = 0 := by
  rw [clk_v ha (by decide), if_v h1 h2 ha (by decide), new_1, clkV_10, ifV_2, tks_se]
  exact lg_self _
theorem f_now (h : BK bb A B) : lg_cmp (nowV B) (nowV A) = 0 := lg_eq.mpr (nowV_eq h.1)
theorem g_ph (h : BK bb A B) {n a : Nat} (h1 : 2 ≤ n) (h2 : n ≤ 200) (ha : a < 8) : lg_cmp (ifPA (newA B (tks 1 B.1)) (nI (n - 1)) (nI a) (0 : Int32)) (ifPA A (nI n) (nI a) (0 : Int32)) = 0 := by
  rw [if_v (by omega) (by omega) ha (by decide), if_v (by omega) h2 ha (by decide), new_1, ifV_0, ifV_0, tks_one, h.1, show n - 1 + 1 = n by omega]
  exact lg_self _
theorem g_gm (h : BK bb A B) {n a : Nat} (h1 : 2 ≤ n) (h2 : n ≤ 200) (ha : a < 8) : lg_cmp (ifPA (newA B (tks 1 B.1)) (nI (n - 1)) (nI a) (2 : Int32)) (ifPA A (nI n) (nI a) (2 : Int32)) = 0 := by
  rw [if_v (by omega) (by omega) ha (by decide), if_v (by omega) h2 ha (by decide), new_1, ifV_2, ifV_2, tks_one, tks_se, h.1, show n - 1 + 1 = n by omega]
  exact lg_self _
theorem lock_v {a b : Nat} (ha : a < 8) (hb : b < 8) (hne : a ≠ b) (A : Ab) : lockA A (nI a) (nI b) = (uz a b 500 0 A.1).toInt64 := by
  unfold lockA
  rw [if_pos (par_ok ha hb hne), nI_clamp (by omega), nI_clamp (by omega)]
theorem in_sp {a b : Nat} (ha : a < 8) (hb : b < 8) (hne : a ≠ b) (c1 : ¬ lg_cmp (lockA A (nI a) (nI b)) 0 ≤ 0) (c2 : ¬ 0 < lg_cmp (lockA A (nI a) (nI b)) 200) : ∃ t, 1 ≤ t ∧ t ≤ 200 ∧ lockA A (nI a) (nI b) = (nI t).toInt64 ∧ lkZ (tks t A.1) a b = true ∧ ∀ j, j < t → lkZ (tks j A.1) a b = false := by
  rw [lock_v ha hb hne] at c1 c2 ⊢
  have k2 := cmp_gt0 (uz a b 500 0 A.1).toInt64 200
  have k1 := cmp_gt0 (uz a b 500 0 A.1).toInt64 0
  rw [l_i] at k1 k2
  have z0 : (0 : Int64).toInt = 0 := rfl
  have z2 : (200 : Int64).toInt = 200 := by decide +kernel
  have n1 : (0 : Int) < (uz a b 500 0 A.1).toInt := by
    have : 0 < lg_cmp (uz a b 500 0 A.1).toInt64 0 := Int32.lt_iff_toInt_lt.mpr (by
      have : ¬ (lg_cmp (uz a b 500 0 A.1).toInt64 0).toInt ≤ (0 : Int32).toInt := fun q => c1 (Int32.le_iff_toInt_le.mpr q)
      omega)
    have := k1.mp this
    omega
  have n2 : (uz a b 500 0 A.1).toInt ≤ 200 := by
    have : ¬ (200 : Int64).toInt < (uz a b 500 0 A.1).toInt := fun q => c2 (k2.mpr q)
    omega
  rcases uz_spec a b 500 0 A.1 rfl with ⟨t, t1, t2, t3, t4⟩ | h
  · rw [t2, Nat.zero_add] at n1 n2 ⊢
    rw [nI_toInt (by omega)] at n1 n2
    exact ⟨t, by omega, by omega, rfl, t3, t4⟩
  · rw [h] at n1
    exact absurd n1 (by decide)
theorem uz_now {a b : Nat} {z : StT} (h : lkZ z a b = true) : uz a b 500 0 z = 0 := by
  show (if lkZ z a b = true then nI 0 else _) = 0
  rw [if_pos h]
  rfl
theorem lk_now (h : BK bb A B) {a b t : Nat} (ha : a < 8) (hb : b < 8) (hne : a ≠ b) (hl : lkZ (tks t A.1) a b = true) : lg_cmp (lockA (newA B (tks t B.1)) (nI a) (nI b)) 0 = 0 := by
  rw [lock_v ha hb hne]
  refine lg_eq.mpr ?_
  show (uz a b 500 0 (tks t B.1)).toInt64 = 0
  rw [h.1, uz_now hl]
  rfl
theorem pr_no (h : BK bb A B) {a b t : Nat} (ha : a < 8) (hb : b < 8) (hne : a ≠ b) (hl : lkZ (tks t A.1) a b = false) : ¬ lg_cmp (pairA (newA B (tks t B.1)) (nI a) (nI b) (2 : Int32)) 0 = 0 := by
  intro q
  have q := lg_eq.mp q
  unfold pairA at q
  rw [if_pos (par_ok ha hb hne), if_pos (by decide), nI_clamp (by omega), nI_clamp (by omega)] at q
  have q : (f_X4_whyNotLocked (zbm (tks t B.1)) (zph (tks t B.1)) (zsg (tks t B.1)) (znt (tks t B.1)) (zse (tks t B.1)) a b).toInt64 = (0 : Int32).toInt64 := q
  have q := why_0.mp (i_inj.mp q)
  rw [h.1] at q
  have hl : f_X4_areLocked (znt (tks t A.1)) (zse (tks t A.1)) a b = false := hl
  rw [hl] at q
  cases q
theorem st_sp (c1 : ¬ nextV A ≤ 0) (c2 : ¬ (200 : Int32) < nextV A) : ∃ t, 1 ≤ t ∧ t ≤ 200 ∧ nextV A = nI t ∧ (¬ (tickZ (tks (t - 1) A.1)).1 ≤ 0) ∧ ∀ j, j < t - 1 → (tickZ (tks j A.1)).1 ≤ 0 := by
  unfold nextV at c1 c2 ⊢
  rcases nz_spec 500 1 A.1 with ⟨t, t1, t2, t3, t4⟩ | h
  · rw [t2] at c2
    have e2 : (200 : Int32) = nI 200 := rfl
    have n2 : 1 + t ≤ 200 := by
      by_cases c : 1 + t ≤ 200
      · exact c
      · exact absurd (by rw [e2]; exact nI_lt (by omega) (by omega)) c2
    refine ⟨1 + t, by omega, n2, t2, ?_, ?_⟩
    · rw [show 1 + t - 1 = t by omega]
      exact t3
    · rw [show 1 + t - 1 = t by omega]
      exact t4
  · rw [h] at c1
    exact absurd (by decide) c1
theorem st_pos (hb : bb ≤ 900000) (h : BK bb A B) {t : Nat} (h1 : 1 ≤ t) (h2 : t ≤ 200) (hs : ¬ (tickZ (tks (t - 1) A.1)).1 ≤ 0) : ¬ lg_cmp (tkc t B.1).toInt64 0 ≤ 0 := by
  have hs2 : ¬ (tickZ (tks (t - 1) B.1)).1 ≤ 0 := by rw [h.1]; exact hs
  have hp := tkc_some h.2.2.2.1 (t - 1) (by omega) hs2
  rw [show t - 1 + 1 = t by omega] at hp
  intro q
  have h3 : 0 < lg_cmp (tkc t B.1).toInt64 0 := (cmp_gt0 _ _).mpr (by rw [l_i]; exact hp)
  have h4 := Int32.lt_iff_toInt_lt.mp h3
  have h5 := Int32.le_iff_toInt_le.mp q
  omega
theorem st_zero (hb : bb ≤ 900000) (h : BK bb A B) {t : Nat} (h2 : t ≤ 200) (hj : ∀ j, j < t - 1 → (tickZ (tks j A.1)).1 ≤ 0) : lg_cmp (tkc (t - 1) B.1).toInt64 0 = 0 := by
  have e := tkc_zero h.2.2.2.1 (t - 1) (by omega) (fun j hj' => by rw [h.1]; exact hj j hj')
  rw [e]
  exact lg_self _
theorem kv_ok {v : Int32} (h1 : v ≠ 0) (h2 : -500 ≤ v.toInt) (h3 : v.toInt ≤ 500) : (¬ (v = 0)) ∧ (¬ (v < (-500 : Int32))) ∧ (v ≤ (500 : Int32)) := by
  have z1 : (-500 : Int32).toInt = -500 := by decide
  have z2 : (500 : Int32).toInt = 500 := by decide
  exact ⟨h1, fun q => by have := Int32.lt_iff_toInt_lt.mp q; omega, Int32.le_iff_toInt_le.mpr (by omega)⟩
theorem kick_v {k : Nat} (hk : k < 8) {v : Int32} (hv : (¬ (v = 0)) ∧ (¬ (v < (-500 : Int32))) ∧ (v ≤ (500 : Int32))) (A : Ab) : kickA A (nI k) v = ((zph (kkZ A.1 k v) k).toInt64, newA A (kkZ A.1 k v)) := by
  unfold kickA
  rw [if_pos (clk_ok hk), if_pos hv, nI_clamp (by omega)]
theorem kp_ok {m : Nat} (h : m < 499) : (¬ (nI (1 + m) = 0)) ∧ (¬ (nI (1 + m) < (-500 : Int32))) ∧ (nI (1 + m) ≤ (500 : Int32)) := by
  refine kv_ok (nI_ne0 (by omega) (by omega)) ?_ ?_ <;> rw [nI_toInt (by omega)] <;> omega
theorem kn_eq (m : Nat) : (-1 : Int32) - nI m = -nI (1 + m) := by
  have e1 : (-1 : Int32) = -nI 1 := by decide +kernel
  rw [← nI_add, Int32.neg_add, e1, Int32.sub_eq_add_neg]
theorem kn_toInt {m : Nat} (h : m < 499) : ((-1 : Int32) - nI m).toInt = -(1 + m : Nat) := by
  rw [kn_eq, neg_toInt (by rw [nI_toInt (by omega)]; omega), nI_toInt (by omega)]
theorem kn_ok {m : Nat} (h : m < 499) : (¬ ((-1 : Int32) - nI m = 0)) ∧ (¬ ((-1 : Int32) - nI m < (-500 : Int32))) ∧ ((-1 : Int32) - nI m ≤ (500 : Int32)) := by
  have e := kn_toInt h
  refine kv_ok (fun q => ?_) (by omega) (by omega)
  rw [q] at e
  have z0 : (0 : Int32).toInt = 0 := rfl
  omega
theorem kick_ge (hb : bb ≤ 900000) (h : IA bb B) {k m : Nat} (hk : k < 8) (hm : m < 499) : ¬ lg_cmp (zph (kkZ B.1 k (nI (1 + m))) k).toInt64 0 < 0 := by
  refine lg_nlt ?_
  have h1 := (IZ_kick (by omega) h.1 hk (v := nI (1 + m)) (by rw [nI_toInt (by omega)]; omega)).2.2.1 k hk
  exact h1.1.1
theorem kick_bk (h : IA bb B) {k m : Nat} (hk : k < 8) (hm : m < 499) : lg_cmp (zph (kkZ (kkZ B.1 k (nI (1 + m))) k ((-1 : Int32) - nI m)) k).toInt64 (clockA B (nI k) (2 : Int32)) = 0 := by
  rw [clk_v hk (by decide), clkV_2]
  refine lg_eq.mpr ?_
  have e1 : zph (kkZ (kkZ B.1 k (nI (1 + m))) k ((-1 : Int32) - nI m)) k = f_J9_floorMod_7cf53 (zph (kkZ B.1 k (nI (1 + m))) k + ((-1 : Int32) - nI m)) 1000 := pk_us
  have e2 : zph (kkZ B.1 k (nI (1 + m))) k = f_J9_floorMod_7cf53 (zph B.1 k + nI (1 + m)) 1000 := pk_us
  rw [e1, e2, kn_eq, kick_back (h.1.2.2.1 k hk).1 (by rw [nI_toInt (by omega)]; omega)]
/-- two acts taken back -/
theorem undo_two (h : B.2.2.1.length ≤ 6) (Z1 Z2 : StT) : ∃ h1 h2 : List StT, undoA (newA (newA B Z1) Z2) = ((nI h1.length).toInt64, (Z1, B.2.1, h1, B.2.2.2)) ∧ 1 ≤ h1.length ∧ h1.length ≤ 6 ∧ undoA (Z1, B.2.1, h1, B.2.2.2) = ((nI h2.length).toInt64, (B.1, B.2.1, h2, B.2.2.2)) ∧ h2.length ≤ 6 ∧ ∀ x, x ∈ h2 → x ∈ B.2.2.1 := by
  have e1 := undo_new (A := newA B Z1) (push_le h B.1) Z2
  have hd : (pushL (pushL B.2.2.1 B.1) Z1).dropLast = if (pushL B.2.2.1 B.1).length = 6 then (pushL B.2.2.1 B.1).tail else pushL B.2.2.1 B.1 := by
    unfold pushL
    exact List.dropLast_concat
  have hk : ∃ g, (pushL (pushL B.2.2.1 B.1) Z1).dropLast = g ++ [B.1] ∧ ∀ x, x ∈ g → x ∈ B.2.2.1 := by
    rw [hd]
    have hg : ∃ g, pushL B.2.2.1 B.1 = g ++ [B.1] ∧ ∀ x, x ∈ g → x ∈ B.2.2.1 := by
      unfold pushL
      refine ⟨_, rfl, fun x hx => ?_⟩
      split at hx
      · exact List.mem_of_mem_tail hx
      · exact hx
    obtain ⟨g, g1, g2⟩ := hg
    split
    · rename_i c6
      rw [g1] at c6 ⊢
      rw [List.length_append] at c6
      cases g with
      | nil =>
        simp only [List.length_nil, List.length_cons] at c6
        omega
      | cons y ys => exact ⟨ys, rfl, fun x hx => g2 x (List.mem_cons_of_mem _ hx)⟩
    · exact ⟨g, g1, g2⟩
  have hl1 : (pushL (pushL B.2.2.1 B.1) Z1).dropLast.length ≤ 6 := by
    rw [List.length_dropLast]
    have h6 := push_le (B := newA B Z1) (push_le h B.1) Z1
    have h6 : (pushL (pushL B.2.2.1 B.1) Z1).length ≤ 6 := h6
    omega
  obtain ⟨g, g1, g2⟩ := hk
  refine ⟨(pushL (pushL B.2.2.1 B.1) Z1).dropLast, g, e1, ?_, hl1, ?_, ?_, g2⟩
  · rw [g1, List.length_append]
    exact Nat.le_add_left _ _
  · rw [g1]
    unfold undoA
    have e : (g ++ [B.1]).getLast? = some B.1 := by rw [List.getLast?_append]; rfl
    show (match (g ++ [B.1]).getLast? with | none => _ | some z => _) = _
    rw [e]
    show ((nI (g ++ [B.1]).dropLast.length).toInt64, (B.1, B.2.1, (g ++ [B.1]).dropLast, B.2.2.2)) = _
    rw [List.dropLast_concat]
  · have := hl1
    rw [g1, List.length_append] at this
    omega
theorem nI_ge0 {n : Nat} (h : n < 1000) : ¬ lg_cmp (nI n).toInt64 0 < 0 := lg_nlt (by rw [nI_toInt (by omega)]; omega)
theorem best_in {b : Nat} (hb : b < 3) (B : Ab) : f_L_in (bestA B (nI b)) 0 (20 : Int64) = true := by
  have e : bestA B (nI b) = (bestZ B.1 b).toInt64 := by
    unfold bestA
    rw [if_pos (bm_ok hb), nI_clamp (by omega)]
  have r := best_rng B.1 b
  have z0 : (0 : Int64).toInt = 0 := rfl
  have z2 : (20 : Int64).toInt = 20 := by decide +kernel
  rw [e]
  unfold f_L_in
  rw [if_neg (fun q => by have := (cmp_lt0 _ _).mp q; rw [l_i] at this; omega), if_neg (fun q => by have := (cmp_gt0 _ _).mp q; rw [l_i] at this; omega)]
end FOL
