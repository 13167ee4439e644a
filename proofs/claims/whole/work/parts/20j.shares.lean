/-! shares are numbers -/
def ck_sD (x : UInt64) : Bool := decide (x &&& 0x7fffffffffffffff ≤ 0x7ff0000000000000) && decide ((Op.cmpValue (FP.dcmp x x) .l) = 0)
def ck_sF (x : UInt32) : Bool := decide (x &&& 0x7fffffff ≤ 0x7f800000) && (decide ((Op.cmpValue (FP.fcmp x x) .l) = 0) && (decide (FP.f2d x &&& 0x7fffffffffffffff ≤ 0x7ff0000000000000) && decide ((Op.cmpValue (FP.dcmp (FP.f2d x) (FP.f2d x)) .l) = 0)))
set_option maxRecDepth 100000 in
theorem ck_sD_ok : ∀ i, i < 9 → ck_sD (shD i) = true := by decide +kernel
set_option maxRecDepth 100000 in
theorem ck_sF_ok1 : ∀ i, i < 501 → ck_sF (shF (0 + i)) = true := by decide +kernel
set_option maxRecDepth 100000 in
theorem ck_sF_ok2 : ∀ i, i < 500 → ck_sF (shF (501 + i)) = true := by decide +kernel
set_option maxRecDepth 100000 in
theorem ck_sF_ok3 : ∀ i, i < 500 → ck_sF (shF (1001 + i)) = true := by decide +kernel
theorem ck_sF_ok {n : Nat} (h : n ≤ 1500) : ck_sF (shF n) = true := by
  by_cases c1 : n < 501
  · have := ck_sF_ok1 n c1
    rw [Nat.zero_add] at this
    exact this
  · by_cases c2 : n < 1001
    · have := ck_sF_ok2 (n - 501) (by omega)
      rw [show 501 + (n - 501) = n by omega] at this
      exact this
    · have := ck_sF_ok3 (n - 1001) (by omega)
      rw [show 1001 + (n - 1001) = n by omega] at this
      exact this
theorem okD_of {x : UInt64} (h : vf_okD x) : vf_n64 x ∧ (Op.cmpValue (FP.dcmp x x) .l) = 0 := by
  obtain ⟨n, h1, h2, e⟩ := h
  have := ck_sD_ok n (by omega)
  have e : x = shD n := e
  rw [← e] at this
  simp only [ck_sD, Bool.and_eq_true, decide_eq_true_eq] at this
  exact this
theorem okF_of {x : UInt32} (h : vf_okF x) : vf_n32 x ∧ (Op.cmpValue (FP.fcmp x x) .l) = 0 ∧ vf_n64 (FP.f2d x) ∧ (Op.cmpValue (FP.dcmp (FP.f2d x) (FP.f2d x)) .l) = 0 := by
  obtain ⟨n, h1, e⟩ := h
  have := ck_sF_ok h1
  have e : x = shF n := e
  rw [← e] at this
  simp only [ck_sF, Bool.and_eq_true, decide_eq_true_eq] at this
  exact this
theorem bits_D {x : UInt64} (h : vf_okD x) : f_Jxe99ae_doubleToLongBits_ccdee x = f_X5_bitsOfDouble x := by
  unfold f_Jxe99ae_doubleToLongBits_ccdee f_Jxe99ae_isNaN_b9ae7 f_X5_bitsOfDouble
  rw [if_pos (okD_of h).2, if_neg Bool.false_ne_true]
theorem bits_F {x : UInt32} (h : vf_okF x) : f_Jxf58ca_floatToIntBits_5c35a x = f_X5_bitsOfFloat x := by
  unfold f_Jxf58ca_floatToIntBits_5c35a f_Jxf58ca_isNaN_12338 f_X5_bitsOfFloat
  rw [if_pos (okF_of h).2.1, if_neg Bool.false_ne_true]
