/-! acts, told by what can be told -/
theorem shr_n {x : Nat} (hx : x < 2 ^ 31) (c : Nat) (hc : c < 8) : nI x >>> (nI c &&& 31) = nI (x / 2 ^ c) := by
  apply Int32.toInt_inj.mp
  have h1 : x / 2 ^ c ≤ x := Nat.div_le_self _ _
  rw [nI_toInt (n := x / 2 ^ c) (by omega)]
  have hb : (nI x >>> (nI c &&& 31)).toBitVec = (nI x).toBitVec.sshiftRight c := by
    rw [Int32.toBitVec_shiftRight]
    have key : ∀ c : Nat, c < 8 → ((nI c &&& 31).toBitVec.smod 32).toNat = c := by decide +kernel
    show (nI x).toBitVec.sshiftRight ((nI c &&& 31).toBitVec.smod 32).toNat = _
    rw [key c hc]
  show (nI x >>> (nI c &&& 31)).toBitVec.toInt = _
  rw [hb, BitVec.toInt_sshiftRight]
  show (nI x).toInt >>> c = _
  rw [nI_toInt hx, Int.shiftRight_eq_div_pow]
  rfl
theorem ndiv {y : Nat} (c : Nat) {m : Int32} (e : m = nI c) (hy : y < 2 ^ 31) (hc : 0 < c) (hc2 : c < 2 ^ 31) : nI y / m = nI (y / c) := by
  rw [e]
  apply Int32.toInt_inj.mp
  have h1 : y / c ≤ y := Nat.div_le_self _ _
  rw [nI_toInt (n := y / c) (by omega), Int32.toInt_div, nI_toInt hy, nI_toInt hc2]
  have h2 : ((y : Int).tdiv (c : Int)) = ((y / c : Nat) : Int) := rfl
  rw [h2]
  generalize y / c = z at h1 ⊢
  exact Int.bmod_eq_of_le (by omega) (by omega)
theorem cd_ok {n : Nat} (h1 : 33 ≤ n) (h2 : n ≤ 126) : (¬ (nI n < (33 : Int32))) ∧ (nI n ≤ (126 : Int32)) := by
  have e1 : (33 : Int32) = nI 33 := rfl
  have e2 : (126 : Int32) = nI 126 := rfl
  rw [e1, e2]
  exact ⟨nI_nlt h1 (by omega), nI_le h2 (by omega)⟩
/-- the sign of a kick told -/
def sgn (y : Nat) : Int32 := if y % 3 = 0 then 45 else 43
theorem sgn_ok (y : Nat) : (¬ (sgn y < (33 : Int32))) ∧ (sgn y ≤ (126 : Int32)) := by
  unfold sgn
  split <;> decide
def piece (y : Nat) : List Int32 := [(107 : Int32), nI (48 + (y % 8)), sgn y, nI (49 + (y % 9)), (59 : Int32), (119 : Int32), nI (48 + ((y / 2) % 8)), (59 : Int32), (116 : Int32), nI (49 + ((y / 3) % 9)), (59 : Int32), (98 : Int32), nI (48 + ((y / 5) % 8)), nI (48 + (y % 3)), (59 : Int32)]
def textOf (x : Nat) : List Int32 := (if x % 3 = 0 then piece (x / 1) else if x % 3 = 1 then piece (x / 1) ++ piece (x / 2) else piece (x / 1) ++ piece (x / 2) ++ piece (x / 4)) ++ [(116 : Int32), nI (49 + (x % 9))]
theorem textOf_len (x : Nat) : (textOf x).length ≤ 60 := by
  unfold textOf
  split
  · exact Nat.le_of_ble_eq_true rfl
  · split
    · exact Nat.le_of_ble_eq_true rfl
    · exact Nat.le_of_ble_eq_true rfl
def toldA (A : Ab) (x : Nat) : Int64 × Ab := if firstV (A.1, A.2.1, A.2.2.1, textOf x) = nI (2 + (15 * (1 + (x % 3)))) then obeyA (A.1, A.2.1, A.2.2.1, textOf x) else (-1, (A.1, A.2.1, A.2.2.1, textOf x))
def actA (A : Ab) (x y : Nat) : Int64 × Ab :=
  if x % 20 < 6 then passA A (nI (1 + (y % (if (y / 32) % 5 = 0 then 200 else 12))))
  else if x % 20 < 8 then kickA A (nI (y % 8)) (nI ((y / 32) % 1001) - (500 : Int32))
  else if x % 20 < 10 then moveA A (nI (y % 8)) (nI ((y / 32) % 3))
  else if x % 20 < 11 then windA A (nI (y % 8))
  else if x % 20 < 13 then speedA A (nI (y % 8)) (nI (10 + ((y / 32) % (if y % 3 = 0 then 51 else 4))))
  else if x % 20 < 14 then giveA A (nI (y % 3)) (nI ((y / 32) % 21))
  else if x % 20 < 15 then setA A (nI (y % 3)) (nI ((y / 32) % 60))
  else if x % 20 < 16 then toldA A y
  else if x % 20 < 18 then undoA A
  else if x % 20 < 19 then ((ztk A.1).toInt64, keepA A)
  else goBackA A
theorem IA_told {b : Nat} {A : Ab} (hb : b ≤ 800000) (h : IA b A) (x : Nat) : IA (b + 5940) (toldA A x).2 := by
  have h2 : IA b (A.1, A.2.1, A.2.2.1, textOf x) := ⟨h.1, h.2.1, h.2.2.1, h.2.2.2.1, textOf_len x⟩
  unfold toldA
  split
  · exact IA_obey hb h2
  · exact h2.mono (by omega)
theorem IA_act {b : Nat} {A : Ab} (hb : b ≤ 800000) (h : IA b A) (x y : Nat) : IA (b + 5940) (actA A x y).2 := by
  unfold actA
  split
  · exact (IA_pass (by omega) h _).mono (by omega)
  · split
    · exact (IA_kick (by omega) h _ _).mono (by omega)
    · split
      · exact (IA_move h _ _).mono (by omega)
      · split
        · exact (IA_wind h _).mono (by omega)
        · split
          · exact (IA_speed h _ _).mono (by omega)
          · split
            · exact (IA_give h _ _).mono (by omega)
            · split
              · exact (IA_set h _ _).mono (by omega)
              · split
                · exact IA_told hb h y
                · split
                  · exact (IA_undo h).mono (by omega)
                  · split
                    · exact (IA_keep h).mono (by omega)
                    · exact (IA_goBack h).mono (by omega)
