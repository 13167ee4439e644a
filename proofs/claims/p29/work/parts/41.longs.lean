theorem cmp_lt0 (x y : Int64) : (lg_cmp x y < 0) ↔ x.toInt < y.toInt := by
  unfold lg_cmp
  by_cases a : x > y
  · rw [if_pos a]
    have h1 := Int64.lt_iff_toInt_lt.mp a
    constructor
    · intro h; exact absurd h (by decide)
    · intro h; omega
  · rw [if_neg a]
    by_cases b : x = y
    · rw [if_pos b, b]
      constructor
      · intro h; exact absurd h (by decide)
      · intro h; omega
    · rw [if_neg b]
      have h1 : ¬ y.toInt < x.toInt := fun h => a (Int64.lt_iff_toInt_lt.mpr h)
      have h2 : ¬ x.toInt = y.toInt := fun h => b (Int64.toInt_inj.mp h)
      constructor
      · intro _; omega
      · intro _; decide
theorem cmp_gt0 (x y : Int64) : (0 < lg_cmp x y) ↔ y.toInt < x.toInt := by
  unfold lg_cmp
  by_cases a : x > y
  · rw [if_pos a]
    have h1 := Int64.lt_iff_toInt_lt.mp a
    constructor
    · intro _; exact h1
    · intro _; decide
  · rw [if_neg a]
    have h1 : ¬ y.toInt < x.toInt := fun h => a (Int64.lt_iff_toInt_lt.mpr h)
    constructor
    · intro h
      split at h <;> exact absurd h (by decide)
    · intro h; exact absurd h h1

/-! longs that the law counts with, and masks as longs -/
theorem l_add {a b : Int64} (h1 : -9223372036854775808 ≤ a.toInt + b.toInt) (h2 : a.toInt + b.toInt < 9223372036854775808) : (a + b).toInt = a.toInt + b.toInt := by
  rw [Int64.toInt_add]
  exact Int.bmod_eq_of_le (by omega) (by omega)
theorem l_sub {a b : Int64} (h1 : -9223372036854775808 ≤ a.toInt - b.toInt) (h2 : a.toInt - b.toInt < 9223372036854775808) : (a - b).toInt = a.toInt - b.toInt := by
  rw [Int64.toInt_sub]
  exact Int.bmod_eq_of_le (by omega) (by omega)
theorem l_mul {a b : Int64} {c : Int} (h : a.toInt * b.toInt = c) (h1 : -9223372036854775808 ≤ c) (h2 : c < 9223372036854775808) : (a * b).toInt = c := by
  rw [Int64.toInt_mul, h]
  exact Int.bmod_eq_of_le (by omega) (by omega)
theorem l_neg {a : Int64} (h : -9223372036854775808 < a.toInt) : (-a).toInt = -a.toInt := by
  have := a.toInt_lt
  rw [Int64.toInt_neg]
  exact Int.bmod_eq_of_le (by omega) (by omega)
theorem l_i (x : Int32) : x.toInt64.toInt = x.toInt := Int32.toInt_toInt64 x
theorem lrem0 {x : Int64} {c : Int} (h : x.toInt = 1000 * c) : x - x / 1000 * 1000 = 0 := by
  have z : (1000 : Int64).toInt = 1000 := by decide +kernel
  have b1 := x.toInt_lt
  have b2 := x.le_toInt
  have e1 : (x / 1000).toInt = c := by
    rw [Int64.toInt_div, z, h, show (1000 * c).tdiv 1000 = c from Int.mul_tdiv_cancel_left c (by decide)]
    exact Int.bmod_eq_of_le (by omega) (by omega)
  have e2 : (x / 1000 * 1000).toInt = x.toInt := by
    rw [l_mul (c := c * 1000) (by rw [e1, z]) (by omega) (by omega)]
    omega
  apply Int64.toInt_inj.mp
  rw [l_sub (by omega) (by omega), e2]
  show x.toInt - x.toInt = 0
  omega
theorem lg_self (x : Int64) : lg_cmp x x = 0 := by
  unfold lg_cmp
  rw [if_neg (Int64.lt_irrefl), if_pos rfl]
theorem lg_eq {x y : Int64} : lg_cmp x y = 0 ↔ x = y := by
  have h1 := cmp_lt0 x y
  have h2 := cmp_gt0 x y
  constructor
  · intro h
    rw [h] at h1 h2
    have n1 : ¬ x.toInt < y.toInt := fun q => absurd (h1.mpr q) (by decide)
    have n2 : ¬ y.toInt < x.toInt := fun q => absurd (h2.mpr q) (by decide)
    exact Int64.toInt_inj.mp (by omega)
  · intro h
    rw [h, lg_self]
theorem i_inj {x y : Int32} : x.toInt64 = y.toInt64 ↔ x = y := by
  constructor
  · intro h
    have := congrArg Int64.toInt h
    rw [l_i, l_i] at this
    exact Int32.toInt_inj.mp this
  · intro h
    rw [h]
theorem bt_ge (m : Int32) {k : Nat} (h : 32 ≤ k) : Bt m k = false := by
  unfold Bt
  exact BitVec.getLsbD_of_ge _ _ h
theorem bt_xor (a b : Int32) (k : Nat) : Bt (a ^^^ b) k = (Bt a k ^^ Bt b k) := by
  unfold Bt
  rw [Int32.toBitVec_xor, BitVec.getLsbD_xor]
theorem bt_m1 {k : Nat} (h : k < 32) : Bt (-1) k = true := by
  unfold Bt
  rw [show (-1 : Int32).toBitVec = BitVec.allOnes 32 from by decide +kernel, BitVec.getLsbD_allOnes]
  exact decide_eq_true h
theorem msk_sub {a b : Int32} (h : ∀ k, Bt a k = true → Bt b k = true) : a.toInt64 &&& (b.toInt64 ^^^ (-1 : Int64)) = 0 := by
  have e : a &&& (b ^^^ (-1 : Int32)) = 0 := by
    apply bt_ext
    intro k
    rw [bt_and, bt_xor, bt_0]
    by_cases c : k < 32
    · rw [bt_m1 c]
      cases e1 : Bt a k
      · rfl
      · rw [h k e1]
        rfl
    · rw [bt_ge a (by omega)]
      rfl
  have e2 : (-1 : Int64) = (-1 : Int32).toInt64 := by decide +kernel
  rw [e2, ← Int32.toInt64_xor, ← Int32.toInt64_and, e]
  decide +kernel
theorem m8 {m : Int32} (h : ∀ k, 8 ≤ k → Bt m k = false) : ∃ v : Nat, v < 256 ∧ m = nI v ∧ ∀ a, Bt m a = v.testBit a := by
  have hl : m.toBitVec.toNat < 256 := Nat.lt_pow_two_of_testBit (n := 8) _ (fun i hi => by rw [BitVec.testBit_toNat]; exact h i hi)
  have e : m = nI m.toBitVec.toNat := by
    apply Int32.toBitVec_inj.mp
    show m.toBitVec = (Int32.ofNat m.toBitVec.toNat).toBitVec
    rw [Int32.toBitVec_ofNat', BitVec.ofNat_toNat, BitVec.setWidth_eq]
  refine ⟨_, hl, e, fun a => ?_⟩
  rw [BitVec.testBit_toNat]
  rfl
set_option maxRecDepth 100000 in
theorem lbt_key : ∀ v : Nat, v < 256 → ∀ a : Nat, a < 8 → ((nI v).toInt64 >>> ((nI a).toInt64 &&& 63)) &&& 1 = (bI (v.testBit a)).toInt64 := by decide +kernel
/-- a bit of a mask, as the law reads it -/
theorem lbt {m : Int32} (h : ∀ k, 8 ≤ k → Bt m k = false) {a : Nat} (ha : a < 8) : (m.toInt64 >>> ((nI a).toInt64 &&& 63)) &&& 1 = (bI (Bt m a)).toInt64 := by
  obtain ⟨v, hv, e, hb⟩ := m8 h
  rw [hb a, e]
  exact lbt_key v hv a ha
theorem bI_l1 {b : Bool} : (bI b).toInt64 = 1 ↔ b = true := by cases b <;> decide +kernel
theorem bI_l0 {b : Bool} : (bI b).toInt64 = 0 ↔ b = false := by cases b <;> decide +kernel
/-! the masks of the beams together -/
def um (bm : Nat → Int32) : Nat → Int32
  | 0 => 0
  | i + 1 => um bm i ||| f_X4_maskOfBeam bm (nI i)
theorem hangs_iff (bm : Nat → Int32) (j : Nat) (b : Int32) : f_X4_hangsOn bm j b = true ↔ bm j = b := by
  unfold f_X4_hangsOn
  by_cases c : bm j = b
  · rw [if_pos c]
    exact ⟨fun _ => c, fun _ => rfl⟩
  · rw [if_neg c]
    exact ⟨(fun q => by cases q), fun q => absurd q c⟩
theorem bt_mb (bm : Nat → Int32) (b : Int32) (j : Nat) : Bt (f_X4_maskOfBeam bm b) j = true ↔ j < 8 ∧ bm j = b := by
  rw [bt_beam, Bool.and_eq_true, decide_eq_true_eq, hangs_iff]
theorem bt_um (bm : Nat → Int32) (j : Nat) : ∀ i, Bt (um bm i) j = true ↔ j < 8 ∧ ∃ c, c < i ∧ bm j = nI c
  | 0 => by
    show Bt 0 j = true ↔ _
    rw [bt_0]
    exact ⟨(fun q => by cases q), (fun q => by obtain ⟨_, c, h, _⟩ := q; omega)⟩
  | i + 1 => by
    show Bt (um bm i ||| f_X4_maskOfBeam bm (nI i)) j = true ↔ _
    rw [bt_or, Bool.or_eq_true, bt_um bm j i, bt_mb]
    constructor
    · intro q
      rcases q with ⟨h, c, h1, h2⟩ | ⟨h, h1⟩
      · exact ⟨h, c, by omega, h2⟩
      · exact ⟨h, i, by omega, h1⟩
    · intro q
      obtain ⟨h, c, h1, h2⟩ := q
      by_cases e : c = i
      · subst e
        exact Or.inr ⟨h, h2⟩
      · exact Or.inl ⟨h, c, by omega, h2⟩
theorem um_dis (bm : Nat → Int32) {i : Nat} (hi : i < 3) : (um bm i).toInt64 &&& (f_X4_maskOfBeam bm (nI i)).toInt64 = 0 := by
  have e : um bm i &&& f_X4_maskOfBeam bm (nI i) = 0 := by
    apply bt_ext
    intro k
    rw [bt_and, bt_0]
    cases e1 : Bt (um bm i) k
    · rfl
    · cases e2 : Bt (f_X4_maskOfBeam bm (nI i)) k
      · rfl
      · obtain ⟨_, c, h1, h2⟩ := (bt_um bm k i).mp e1
        have h3 := ((bt_mb bm (nI i) k).mp e2).2
        have := (nI_eq (by omega) (by omega)).mp (h2.symm.trans h3)
        omega
  rw [← Int32.toInt64_and, e]
  decide +kernel
theorem um_all {bm : Nat → Int32} (h : ∀ k, k < 8 → vp_in (bm k) 3) : um bm 3 = 255 := by
  apply bt_ext
  intro k
  by_cases c : k < 8
  · have e := (vp_nI (h k c)).symm
    have hl := vp_lt (h k c)
    rw [(bt_um bm k 3).mpr ⟨c, _, hl, e⟩]
    rcases lt8 c with q | q | q | q | q | q | q | q <;> subst q <;> decide +kernel
  · have e1 : Bt (um bm 3) k = false := by
      cases e : Bt (um bm 3) k
      · rfl
      · exact absurd ((bt_um bm k 3).mp e).1 c
    rw [e1]
    symm
    by_cases c2 : k < 32
    · have key : ∀ k : Nat, k < 32 → ¬ k < 8 → Bt 255 k = false := by decide +kernel
      exact key k c2 c
    · exact bt_ge 255 (by omega)
theorem go_sub (bm sg : Nat → Int32) (b : Int32) : (f_X4_maskOfBeam bm b &&& f_X4_goingMask sg).toInt64 &&& ((f_X4_maskOfBeam bm b).toInt64 ^^^ (-1 : Int64)) = 0 := by
  refine msk_sub (fun k h => ?_)
  rw [bt_and, Bool.and_eq_true] at h
  exact h.1
theorem mb_hi (bm : Nat → Int32) (b : Int32) : ∀ k, 8 ≤ k → Bt (f_X4_maskOfBeam bm b) k = false := fun k hk => by
  cases e : Bt (f_X4_maskOfBeam bm b) k
  · rfl
  · have := ((bt_mb bm b k).mp e).1
    omega
theorem lm_hi (nt se : Nat → Int32) (a : Nat) : ∀ k, 8 ≤ k → Bt (f_X4_lockedMask nt se a) k = false := fun k hk => by
  rw [bt_lm, decide_eq_false (by omega)]
  rfl
