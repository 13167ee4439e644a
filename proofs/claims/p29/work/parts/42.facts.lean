/-! what is so of gaps, groups and counts in every state -/
theorem gap_anti {ph : Nat → Int32} (hp : ∀ k, k < 8 → 0 ≤ (ph k).toInt ∧ (ph k).toInt < 1000) {a b : Nat} (ha : a < 8) (hb : b < 8) : (f_X4_gapFrom ph a b).toInt = -(f_X4_gapFrom ph b a).toInt ∨ ((f_X4_gapFrom ph a b).toInt = -500 ∧ (f_X4_gapFrom ph b a).toInt = -500) := by
  have h1 := hp a ha
  have h2 := hp b hb
  rw [gap_toInt hp ha hb, gap_toInt hp hb ha]
  repeat' split
  all_goals omega
theorem gap_cong {ph : Nat → Int32} (hp : ∀ k, k < 8 → 0 ≤ (ph k).toInt ∧ (ph k).toInt < 1000) {a b : Nat} (ha : a < 8) (hb : b < 8) : ∃ c : Int, (ph b).toInt - (ph a).toInt - (f_X4_gapFrom ph a b).toInt = 1000 * c := by
  have h1 := hp a ha
  have h2 := hp b hb
  rw [gap_toInt hp ha hb]
  split
  · split
    · exact ⟨0, by omega⟩
    · exact ⟨-1, by omega⟩
  · exact ⟨1, by omega⟩
theorem why_0 {bm ph sg nt se : Nat → Int32} {k o : Nat} : f_X4_whyNotLocked bm ph sg nt se k o = 0 ↔ f_X4_areLocked nt se k o = true := by
  unfold f_X4_whyNotLocked
  by_cases c : f_X4_areLocked nt se k o = true
  · rw [if_pos c]
    exact ⟨fun _ => c, fun _ => rfl⟩
  · rw [if_neg c]
    refine ⟨fun h => ?_, fun h => absurd h c⟩
    split at h
    · split at h
      · split at h
        · split at h
          · exact absurd h (by decide)
          · exact absurd h (by decide)
        · exact absurd h (by decide)
      · exact absurd h (by decide)
    · exact absurd h (by decide)
theorem lk_ge {nt se : Nat → Int32} {k o : Nat} : f_X4_areLocked nt se k o = true ↔ (se 2).toInt ≤ (nt (k * 8 + o)).toInt := by
  unfold f_X4_areLocked
  by_cases c : nt (k * 8 + o) < se 2
  · rw [if_pos c]
    have := Int32.lt_iff_toInt_lt.mp c
    exact ⟨(fun h => by cases h), (fun h => by omega)⟩
  · rw [if_neg c]
    have : ¬ (nt (k * 8 + o)).toInt < (se 2).toInt := fun q => c (Int32.lt_iff_toInt_lt.mpr q)
    exact ⟨(fun _ => by omega), (fun _ => rfl)⟩
section GM
variable {nt se : Nat → Int32}
theorem gm_self {a : Nat} (ha : a < 8) : Bt (f_X4_groupMask nt se a) a = true := (bt_gm ha a).mpr ⟨ha, Conn.rf _ a⟩
theorem lm_sub {a : Nat} (ha : a < 8) (k : Nat) (h : Bt (f_X4_lockedMask nt se a) k = true) : Bt (f_X4_groupMask nt se a) k = true := by
  rw [bt_lm, Bool.and_eq_true, decide_eq_true_eq] at h
  exact (bt_gm ha k).mpr ⟨h.1, Conn.st ha h.1 h.2⟩
theorem lm_no {a : Nat} : Bt (f_X4_lockedMask nt se a) a = false := by
  rw [bt_lm, AL_no, Bool.and_false]
theorem lm_at {a b : Nat} (hb : b < 8) (hne : a ≠ b) : Bt (f_X4_lockedMask nt se a) b = f_X4_areLocked nt se a b := by
  rw [bt_lm, decide_eq_true hb, Bool.true_and, AL_ne hne]
theorem gm_eqv (hn : NS nt) {a b : Nat} (ha : a < 8) (hb : b < 8) : f_X4_groupMask nt se b = f_X4_groupMask nt se a ↔ Bt (f_X4_groupMask nt se a) b = true := by
  obtain ⟨g, hg, _⟩ := lay (se := se) hn
  constructor
  · intro h
    rw [← h]
    exact gm_self hb
  · intro h
    have e := (gm_gr hg ha hb).mp h
    refine bt_ext (fun k => ?_)
    by_cases c : k < 8
    · have h1 := gm_gr hg hb c
      have h2 := gm_gr hg ha c
      rw [← e] at h1
      exact Bool.eq_iff_iff.mpr (h1.trans h2.symm)
    · rw [gm_hi hb k (by omega), gm_hi ha k (by omega)]
/-- how many clocks are the lowest of their groups -/
theorem lows_eq (hn : NS nt) : ∃ g : Nat → Nat, (∀ k, k < 8 → f_X4_lowestOfGroup nt se k = nI (g k) ∧ g k < 8) ∧ (∀ l, (f_X4_groupsByJoining nt se l).1 = nI (cnt (fun k => decide (g k = k)) 0 8)) ∧ f_X4_groupsByWalking nt se = nI (cnt (fun k => decide (g k = k)) 0 8) := by
  obtain ⟨g, hg, hc⟩ := lay (se := se) hn
  exact ⟨g, fun k hk => ⟨low_gr hg hk, by have := (hg.1 k hk).1; omega⟩, hc, walk_gr hg⟩
end GM
theorem strikes_toInt {b : Nat} (hb : b ≤ 1000000) {st : Nat → Int32} (h : ∀ k, k < 8 → 0 ≤ (st k).toInt ∧ (st k).toInt ≤ (b : Int)) : (f_X4_strikesOfAll st).toInt = sum8 st := by
  have e : f_X4_strikesOfAll st = (0 : Int32) + st 0 + st 1 + st 2 + st 3 + st 4 + st 5 + st 6 + st 7 := by
    unfold f_X4_strikesOfAll
    rw [it_s, it_s, it_s, it_s, it_s, it_s, it_s, it_s, it_0]
    rfl
  have h0 := h 0 (by omega)
  have h1 := h 1 (by omega)
  have h2 := h 2 (by omega)
  have h3 := h 3 (by omega)
  have h4 := h 4 (by omega)
  have h5 := h 5 (by omega)
  have h6 := h 6 (by omega)
  have h7 := h 7 (by omega)
  rw [e]
  unfold sum8
  have z0 : (0 : Int32).toInt = 0 := rfl
  have e0 : ((0 : Int32) + st 0).toInt = (st 0).toInt := by rw [add_toInt (by omega) (by omega)]; omega
  have e1 : ((0 : Int32) + st 0 + st 1).toInt = (st 0).toInt + (st 1).toInt := by rw [add_toInt (by omega) (by omega)]; omega
  have e2 : ((0 : Int32) + st 0 + st 1 + st 2).toInt = (st 0).toInt + (st 1).toInt + (st 2).toInt := by rw [add_toInt (by omega) (by omega)]; omega
  have e3 : ((0 : Int32) + st 0 + st 1 + st 2 + st 3).toInt = (st 0).toInt + (st 1).toInt + (st 2).toInt + (st 3).toInt := by rw [add_toInt (by omega) (by omega)]; omega
  have e4 : ((0 : Int32) + st 0 + st 1 + st 2 + st 3 + st 4).toInt = (st 0).toInt + (st 1).toInt + (st 2).toInt + (st 3).toInt + (st 4).toInt := by rw [add_toInt (by omega) (by omega)]; omega
  have e5 : ((0 : Int32) + st 0 + st 1 + st 2 + st 3 + st 4 + st 5).toInt = (st 0).toInt + (st 1).toInt + (st 2).toInt + (st 3).toInt + (st 4).toInt + (st 5).toInt := by rw [add_toInt (by omega) (by omega)]; omega
  have e6 : ((0 : Int32) + st 0 + st 1 + st 2 + st 3 + st 4 + st 5 + st 6).toInt = (st 0).toInt + (st 1).toInt + (st 2).toInt + (st 3).toInt + (st 4).toInt + (st 5).toInt + (st 6).toInt := by rw [add_toInt (by omega) (by omega)]; omega
  rw [add_toInt (by omega) (by omega)]
  omega
/-! what would be is so when it is done -/
theorem tks_one (n : Nat) (z : StT) : tks n (tks 1 z) = tks (n + 1) z := by
  rw [Nat.add_comm, tks_add]
/-- none strikes in ticks of which none strikes -/
theorem tkc_zero {b : Nat} {z : StT} (h : IZ b z) : ∀ n, b + n ≤ 1000000 → (∀ j, j < n → (tickZ (tks j z)).1 ≤ 0) → tkc n z = 0 := by
  intro n
  induction n with
  | zero => intro _ _; rfl
  | succ n ih =>
    intro hb hj
    have h1 := ih (by omega) (fun j hj' => hj j (by omega))
    have e : tkc (n + 1) z = tkc n z + (tickZ (tks n z)).1 := by
      rw [tkc_add]
      congr 1
      show tkc 1 (tks n z) = _
      rw [tkc_s, tkc_0, Int32.add_zero]
    have h2 := (IZ_tick (by omega) (IZ_tks n b (by omega) h).1).2.1
    have h3 := Int32.le_iff_toInt_le.mp (hj n (by omega))
    have z0 : (0 : Int32).toInt = 0 := rfl
    rw [e, h1, Int32.zero_add]
    exact Int32.toInt_inj.mp (by omega)
theorem tkc_some {b : Nat} {z : StT} (h : IZ b z) (n : Nat) (hb : b + n + 1 ≤ 1000000) (hs : ¬ (tickZ (tks n z)).1 ≤ 0) : 0 < (tkc (n + 1) z).toInt := by
  have e : tkc (n + 1) z = tkc n z + (tickZ (tks n z)).1 := by
    rw [tkc_add]
    congr 1
    show tkc 1 (tks n z) = _
    rw [tkc_s, tkc_0, Int32.add_zero]
  have h1 := IZ_tks n b (by omega) h
  have h2 := (IZ_tick (by omega) h1.1).2.1
  have h3 : ¬ (tickZ (tks n z)).1.toInt ≤ (0 : Int32).toInt := fun q => hs (Int32.le_iff_toInt_le.mpr q)
  have z0 : (0 : Int32).toInt = 0 := rfl
  rw [e, add_toInt (by omega) (by omega)]
  omega
/-- two kicks bring a phase back -/
theorem kick_back {x v : Int32} (hx : 0 ≤ x.toInt ∧ x.toInt < 1000) (hv : -500 ≤ v.toInt ∧ v.toInt ≤ 500) : f_J9_floorMod_7cf53 (f_J9_floorMod_7cf53 (x + v) 1000 + -v) 1000 = x := by
  have e1 : (x + v).toInt = x.toInt + v.toInt := add_toInt (by omega) (by omega)
  have r1 := fm_rng (x := x + v) (by omega) (by omega)
  obtain ⟨c1, q1⟩ := fm_cong (x := x + v) (by omega) (by omega)
  generalize f_J9_floorMod_7cf53 (x + v) 1000 = y at r1 q1 ⊢
  have en : (-v).toInt = -v.toInt := neg_toInt (by omega)
  have e2 : (y + -v).toInt = y.toInt - v.toInt := by rw [add_toInt (by omega) (by omega)]; omega
  have r2 := fm_rng (x := y + -v) (by omega) (by omega)
  obtain ⟨c2, q2⟩ := fm_cong (x := y + -v) (by omega) (by omega)
  apply Int32.toInt_inj.mp
  omega
/-- a state saved and restored -/
theorem undo_push {A : Ab} (h : A.2.2.1.length ≤ 6) (z : StT) (bf : List Int32) : undoA (z, A.2.1, pushL A.2.2.1 A.1, bf) = ((nI (pushL A.2.2.1 A.1).dropLast.length).toInt64, (A.1, A.2.1, (pushL A.2.2.1 A.1).dropLast, bf)) := by
  unfold undoA
  have e : (pushL A.2.2.1 A.1).getLast? = some A.1 := by
    unfold pushL
    rw [List.getLast?_append]
    rfl
  show (match (pushL A.2.2.1 A.1).getLast? with | none => _ | some z => _) = _
  rw [e]
theorem undo_new {A : Ab} (h : A.2.2.1.length ≤ 6) (z : StT) : undoA (newA A z) = ((nI (pushL A.2.2.1 A.1).dropLast.length).toInt64, (A.1, A.2.1, (pushL A.2.2.1 A.1).dropLast, A.2.2.2)) := undo_push h z A.2.2.2
