/-! what the functions say of indices -/
theorem i32_0 : (0 : Int32).toInt = 0 := rfl
theorem vp_isBeam {a : Int32} (h : f_X5_isBeam a = true) : vp_in a 3 := by
  unfold f_X5_isBeam at h
  rw [vp_in_iff]
  by_cases h1 : a < 0
  · rw [if_pos h1] at h; cases h
  · rw [if_neg h1] at h
    by_cases h2 : (3 : Int32) ≤ a
    · rw [if_pos h2] at h; cases h
    · have e1 : ¬ a.toInt < (0 : Int32).toInt := fun q => h1 (Int32.lt_iff_toInt_lt.mpr q)
      have e2 : ¬ (3 : Int32).toInt ≤ a.toInt := fun q => h2 (Int32.le_iff_toInt_le.mpr q)
      have z0 : (0 : Int32).toInt = 0 := rfl
      have z3 : (3 : Int32).toInt = 3 := rfl
      rw [z0] at e1
      rw [z3] at e2
      constructor <;> omega
