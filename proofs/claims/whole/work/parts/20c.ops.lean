/-! the orders' functions, class against reference -/
def rmod (x : Int32) : Int32 := (if 0 ≤ (x - x / (1000 : Int32) * (1000 : Int32)) then (x - x / (1000 : Int32) * (1000 : Int32)) else ((x - x / (1000 : Int32) * (1000 : Int32)) + (1000 : Int32)))
set_option maxRecDepth 100000 in
theorem fm_key : ∀ n : Nat, n < 2000 → f_J9_floorMod_7cf53 (Int32.ofInt ((n : Int) - 500)) 1000 = rmod (Int32.ofInt ((n : Int) - 500)) ∧ 0 ≤ (rmod (Int32.ofInt ((n : Int) - 500))).toInt ∧ (rmod (Int32.ofInt ((n : Int) - 500))).toInt < 1000 := by decide +kernel
theorem fm_eq {x : Int32} (h1 : -500 ≤ x.toInt) (h2 : x.toInt < 1500) : f_J9_floorMod_7cf53 x 1000 = rmod x ∧ 0 ≤ (rmod x).toInt ∧ (rmod x).toInt < 1000 := by
  have h := fm_key (x.toInt + 500).toNat (by omega)
  have e : (((x.toInt + 500).toNat : Int) - 500) = x.toInt := by omega
  rw [e, Int32.ofInt_toInt] at h
  exact h
theorem doKick_now (now : Nat → Int32) (k : Nat) (v : Int32) : (f_X6_doKick now k v).2 = upd (upd (upd now ((6 + (7 * k)) + 2) (rmod (now ((6 + (7 * k)) + 2) + v))) ((6 + (7 * k)) + 6) ((upd now ((6 + (7 * k)) + 2) (rmod (now ((6 + (7 * k)) + 2) + v))) ((6 + (7 * k)) + 6) + v)) 127 ((upd (upd now ((6 + (7 * k)) + 2) (rmod (now ((6 + (7 * k)) + 2) + v))) ((6 + (7 * k)) + 6) ((upd now ((6 + (7 * k)) + 2) (rmod (now ((6 + (7 * k)) + 2) + v))) ((6 + (7 * k)) + 6) + v)) 127 + 1) := rfl
