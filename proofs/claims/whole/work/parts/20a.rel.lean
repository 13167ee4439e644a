/-! class and reference by their functions: what they have in common -/
theorem cmp_lt0 (x y : Int64) : (lg_cmp x y < 0) ↔ x.toInt < y.toInt := by
  unfold lg_cmp
  by_cases a : x > y
  · rw [if_pos a]
    have h1 := Int64.lt_iff_toInt_lt.mp a
    constructor
    · intro h; exact absurd h (by decide)
    · intro h; omega
  · rw [if_neg a]
    by_cases b : x = y
    · rw [if_pos b, b]
      constructor
      · intro h; exact absurd h (by decide)
      · intro h; omega
    · rw [if_neg b]
      have h1 : ¬ y.toInt < x.toInt := fun h => a (Int64.lt_iff_toInt_lt.mpr h)
      have h2 : ¬ x.toInt = y.toInt := fun h => b (Int64.toInt_inj.mp h)
      constructor
      · intro _; omega
      · intro _; decide
theorem cmp_gt0 (x y : Int64) : (0 < lg_cmp x y) ↔ y.toInt < x.toInt := by
  unfold lg_cmp
  by_cases a : x > y
  · rw [if_pos a]
    have h1 := Int64.lt_iff_toInt_lt.mp a
    constructor
    · intro _; exact h1
    · intro _; decide
  · rw [if_neg a]
    have h1 : ¬ y.toInt < x.toInt := fun h => a (Int64.lt_iff_toInt_lt.mpr h)
    constructor
    · intro h
      split at h <;> exact absurd h (by decide)
    · intro h; exact absurd h h1
theorem in_iff (v : Int32) (a b : Int64) : f_X6_in v.toInt64 a b = true ↔ a.toInt ≤ v.toInt ∧ v.toInt ≤ b.toInt := by
  unfold f_X6_in
  have e1 : v.toInt64.toInt = v.toInt := Int32.toInt_toInt64 v
  have k1 := cmp_lt0 v.toInt64 a
  have k2 := cmp_gt0 v.toInt64 b
  rw [e1] at k1 k2
  by_cases c1 : lg_cmp v.toInt64 a < 0
  · rw [if_pos c1]
    have := k1.mp c1
    constructor
    · intro h; cases h
    · intro h; omega
  · rw [if_neg c1]
    have n1 : ¬ v.toInt < a.toInt := fun h => c1 (k1.mpr h)
    by_cases c2 : 0 < lg_cmp v.toInt64 b
    · rw [if_pos c2]
      have := k2.mp c2
      constructor
      · intro h; cases h
      · intro h; omega
    · rw [if_neg c2]
      have n2 : ¬ b.toInt < v.toInt := fun h => c2 (k2.mpr h)
      constructor
      · intro _; omega
      · intro _; rfl
theorem isClock5 (a : Int32) : f_X5_isClock a = true ↔ 0 ≤ a.toInt ∧ a.toInt < 8 := by
  constructor
  · intro h
    have := vp_in_iff.mp (vp_isClock h)
    omega
  · intro h
    unfold f_X5_isClock
    have z0 : (0 : Int32).toInt = 0 := rfl
    have z8 : (8 : Int32).toInt = 8 := rfl
    have h1 : ¬ a < 0 := fun q => by have := Int32.lt_iff_toInt_lt.mp q; omega
    have h2 : ¬ (8 : Int32) ≤ a := fun q => by have := Int32.le_iff_toInt_le.mp q; omega
    rw [if_neg h1, if_neg h2]
theorem isClock_eq (a : Int32) : f_X6_isClock a = f_X5_isClock a := by
  rw [Bool.eq_iff_iff, isClock5]
  unfold f_X6_isClock
  rw [in_iff]
  have z0 : (0 : Int64).toInt = 0 := rfl
  have z7 : (7 : Int64).toInt = 7 := rfl
  omega
/-- a State and a row of the reference hold the same -/
def Rel (z : StT) (row : Nat → Int32) : Prop :=
  (∀ k, k < 8 → row (6 + 7 * k + 0) = z.1 k ∧ row (6 + 7 * k + 1) = z.2.1 k ∧ row (6 + 7 * k + 2) = z.2.2.1 k ∧ row (6 + 7 * k + 3) = z.2.2.2.1 k ∧ row (6 + 7 * k + 4) = z.2.2.2.2.1 k ∧ row (6 + 7 * k + 5) = z.2.2.2.2.2.1 k ∧ row (6 + 7 * k + 6) = z.2.2.2.2.2.2.1 k) ∧
  (∀ k, k < 8 → ∀ o, o < 8 → k ≠ o → row (f_X6_near k o) = z.2.2.2.2.2.2.2.1 (k * 8 + o)) ∧
  (∀ b, b < 3 → row (0 + b) = z.2.2.2.2.2.2.2.2.1 b) ∧ (∀ i, i < 3 → row (3 + i) = z.2.2.2.2.2.2.2.2.2.1 i) ∧
  row 126 = z.2.2.2.2.2.2.2.2.2.2.1 ∧ row 127 = z.2.2.2.2.2.2.2.2.2.2.2.1 ∧ row 128 = z.2.2.2.2.2.2.2.2.2.2.2.2.1
theorem Rel_born : Rel iSt iM_now := by
  refine ⟨?_, ?_, ?_, ?_, ?_, ?_, ?_⟩ <;> decide +kernel
