/-! masks by their bits -/
def Bt (a : Int32) (k : Nat) : Bool := a.toBitVec.getLsbD k
theorem bt_or (a b : Int32) (k : Nat) : Bt (a ||| b) k = (Bt a k || Bt b k) := by
  unfold Bt
  rw [Int32.toBitVec_or, BitVec.getLsbD_or]
theorem bt_and (a b : Int32) (k : Nat) : Bt (a &&& b) k = (Bt a k && Bt b k) := by
  unfold Bt
  rw [Int32.toBitVec_and, BitVec.getLsbD_and]
theorem bt_0 (k : Nat) : Bt 0 k = false := by
  show (0#32).getLsbD k = false
  exact BitVec.getLsbD_zero
theorem lt8 {i : Nat} (h : i < 8) : i = 0 ∨ i = 1 ∨ i = 2 ∨ i = 3 ∨ i = 4 ∨ i = 5 ∨ i = 6 ∨ i = 7 := by omega
theorem one_bv {i : Nat} (h : i < 8) : ((1 : Int32) <<< ((nI i) &&& 31)).toBitVec = BitVec.twoPow 32 i := by
  rcases lt8 h with e | e | e | e | e | e | e | e <;> (subst e; decide +kernel)
theorem bt_one {i : Nat} (h : i < 8) (k : Nat) : Bt ((1 : Int32) <<< ((nI i) &&& 31)) k = decide (k = i) := by
  unfold Bt
  rw [one_bv h, BitVec.getLsbD_twoPow]
  by_cases e : k = i
  · subst e
    simp
    omega
  · have e2 : ¬ i = k := fun q => e q.symm
    simp [e, e2]
theorem bt_ext {a b : Int32} (h : ∀ k, Bt a k = Bt b k) : a = b := Int32.toBitVec_inj.mp (BitVec.eq_of_getLsbD_eq (fun i _ => h i))
theorem isIn_bt (a : Int32) {k : Nat} (h : k < 8) : f_X4_isIn a k = Bt a k := by
  unfold f_X4_isIn
  have e : (a &&& ((1 : Int32) <<< ((nI k) &&& 31))).toBitVec = if Bt a k = true then BitVec.twoPow 32 k else 0#32 := by
    rw [Int32.toBitVec_and, one_bv h]
    exact BitVec.and_twoPow a.toBitVec k
  by_cases c : Bt a k = true
  · rw [if_pos c] at e
    rw [c, if_neg]
    intro z
    rw [z] at e
    have : (BitVec.twoPow 32 k) ≠ (0 : Int32).toBitVec := by
      rcases lt8 h with e | e | e | e | e | e | e | e <;> (subst e; decide +kernel)
    exact this e.symm
  · rw [if_neg c] at e
    rw [if_pos (Int32.toBitVec_inj.mp e)]
    cases hb : Bt a k
    · rfl
    · exact absurd hb c
theorem sh_bt (a : Int32) {k : Nat} (h : k < 8) : ((a >>> ((nI k) &&& 31)) &&& (1 : Int32)) = if Bt a k = true then 1 else 0 := by
  have hs : (((nI k) &&& 31).toBitVec.smod 32).toNat = k := by
    rcases lt8 h with e | e | e | e | e | e | e | e <;> (subst e; decide +kernel)
  have e : ((a >>> ((nI k) &&& 31)) &&& (1 : Int32)).toBitVec = BitVec.setWidth 32 (BitVec.ofBool (Bt a k)) := by
    rw [Int32.toBitVec_and, Int32.toBitVec_shiftRight]
    rw [BitVec.sshiftRight_eq', hs]
    show (a.toBitVec.sshiftRight k &&& 1#32) = _
    rw [BitVec.and_one_eq_setWidth_ofBool_getLsbD, BitVec.getLsbD_sshiftRight]
    have h0 : (decide (32 ≤ 0)) = false := rfl
    rw [h0, Nat.add_zero, if_pos (by omega)]
    rfl
  apply Int32.toBitVec_inj.mp
  rw [e]
  cases Bt a k
  · decide +kernel
  · decide +kernel
/-- a mask made bit by bit -/
theorem bt_it (c : Nat → Bool) : ∀ (n i : Nat) (s : Int32) (j : Nat), i + n ≤ 8 → Bt (it (fun k r => r ||| (if c k = true then ((1 : Int32) <<< ((nI k) &&& 31)) else (0 : Int32))) i n s) j = (Bt s j || (decide (i ≤ j ∧ j < i + n) && c j)) := by
  intro n
  induction n with
  | zero =>
    intro i s j _
    rw [it_0, decide_eq_false (by omega)]
    simp
  | succ n ih =>
    intro i s j h
    rw [it_s, ih (i + 1) _ j (by omega), bt_or]
    by_cases ci : c i = true
    · rw [if_pos ci, bt_one (by omega)]
      by_cases e : j = i
      · subst e
        rw [ci, decide_eq_true (show j = j from rfl), decide_eq_true (show j ≤ j ∧ j < j + (n + 1) by omega)]
        simp
      · rw [decide_eq_false e, Bool.or_false]
        congr 2
        exact decide_eq_decide.mpr (by omega)
    · rw [if_neg ci, bt_0, Bool.or_false]
      by_cases e : j = i
      · subst e
        have cf : c j = false := by cases hc : c j; rfl; exact absurd hc ci
        rw [cf, Bool.and_false, Bool.and_false]
      · congr 2
        exact decide_eq_decide.mpr (by omega)
/-- the same where a place that isn't taken is passed by -/
theorem bt_it2 (c : Nat → Bool) (n i : Nat) (s : Int32) (j : Nat) (h : i + n ≤ 8) : Bt (it (fun k r => if c k = true then (r ||| ((1 : Int32) <<< ((nI k) &&& 31))) else r) i n s) j = (Bt s j || (decide (i ≤ j ∧ j < i + n) && c j)) := by
  rw [← bt_it c n i s j h]
  congr 1
  refine it_cg 0 8 (fun k a _ _ => ?_) n i s (by omega) (by omega)
  by_cases ck : c k = true
  · rw [if_pos ck, if_pos ck]
  · rw [if_neg ck, if_neg ck, Int32.or_zero]
/-- how many of the places i .. are taken -/
def cnt (B : Nat → Bool) : Nat → Nat → Nat
  | _, 0 => 0
  | i, n + 1 => bN (B i) + cnt B (i + 1) n
theorem cnt_le (B : Nat → Bool) : ∀ n i, cnt B i n ≤ n := by
  intro n
  induction n with
  | zero => intro i; exact Nat.le_refl 0
  | succ n ih =>
    intro i
    have h1 := ih (i + 1)
    have h2 := bN_le (B i)
    show bN (B i) + cnt B (i + 1) n ≤ n + 1
    omega
theorem cnt_all {B : Nat → Bool} : ∀ n i, cnt B i n = n → ∀ x, i ≤ x → x < i + n → B x = true := by
  intro n
  induction n with
  | zero => intro i _ x _ _; omega
  | succ n ih =>
    intro i h x hx hx2
    have h : bN (B i) + cnt B (i + 1) n = n + 1 := h
    have h1 := cnt_le B n (i + 1)
    have h2 := bN_le (B i)
    by_cases e : x = i
    · subst e
      cases hb : B x
      · rw [hb] at h
        have h : 0 + cnt B (x + 1) n = n + 1 := h
        omega
      · rfl
    · exact ih (i + 1) (by omega) x (by omega) (by omega)
theorem cnt_mono {B C : Nat → Bool} : ∀ n i, (∀ x, i ≤ x → x < i + n → B x = true → C x = true) → cnt B i n ≤ cnt C i n := by
  intro n
  induction n with
  | zero => intro i _; exact Nat.le_refl 0
  | succ n ih =>
    intro i h
    have h1 := ih (i + 1) (fun x a b => h x (by omega) (by omega))
    have h2 : bN (B i) ≤ bN (C i) := by
      cases hb : B i
      · exact Nat.zero_le _
      · rw [h i (by omega) (by omega) hb]
        exact Nat.le_refl _
    show bN (B i) + cnt B (i + 1) n ≤ bN (C i) + cnt C (i + 1) n
    omega
theorem cnt_lt {B C : Nat → Bool} (y : Nat) (hB : B y = false) (hC : C y = true) : ∀ n i, i ≤ y → y < i + n → (∀ x, i ≤ x → x < i + n → B x = true → C x = true) → cnt B i n + 1 ≤ cnt C i n := by
  intro n
  induction n with
  | zero => intro i _ _ _; omega
  | succ n ih =>
    intro i h1 h2 h
    show bN (B i) + cnt B (i + 1) n + 1 ≤ bN (C i) + cnt C (i + 1) n
    by_cases e : y = i
    · subst e
      have g := cnt_mono (B := B) (C := C) n (y + 1) (fun x a b => h x (by omega) (by omega))
      rw [hB, hC]
      show 0 + cnt B (y + 1) n + 1 ≤ 1 + cnt C (y + 1) n
      omega
    · have g := ih (i + 1) (by omega) (by omega) (fun x a b => h x (by omega) (by omega))
      have h2 : bN (B i) ≤ bN (C i) := by
        cases hb : B i
        · exact Nat.zero_le _
        · rw [h i (by omega) (by omega) hb]
          exact Nat.le_refl _
      omega
theorem cnt_cg {B C : Nat → Bool} (n i : Nat) (h : ∀ x, i ≤ x → x < i + n → B x = C x) : cnt B i n = cnt C i n :=
  Nat.le_antisymm (cnt_mono n i (fun x a b q => by rw [← h x a b]; exact q)) (cnt_mono n i (fun x a b q => by rw [h x a b]; exact q))
theorem cnt_drop {B C : Nat → Bool} (y : Nat) (hB : B y = true) (hC : C y = false) : ∀ n i, i ≤ y → y < i + n → (∀ x, i ≤ x → x < i + n → x ≠ y → B x = C x) → cnt C i n + 1 = cnt B i n := by
  intro n
  induction n with
  | zero => intro i _ _ _; omega
  | succ n ih =>
    intro i h1 h2 h
    show bN (C i) + cnt C (i + 1) n + 1 = bN (B i) + cnt B (i + 1) n
    by_cases e : y = i
    · subst e
      have g := cnt_cg (B := B) (C := C) n (y + 1) (fun x a b => h x (by omega) (by omega) (by omega))
      rw [hB, hC, g]
      show 0 + cnt C (y + 1) n + 1 = 1 + cnt C (y + 1) n
      omega
    · have g := ih (i + 1) (by omega) (by omega) (fun x a b => h x (by omega) (by omega))
      rw [h i (by omega) (by omega) (fun q => e q.symm)]
      omega
/-- a sum over places is how many are taken -/
theorem it_cnt (B : Nat → Bool) : ∀ (n i c : Nat), it (fun k (r : Int32) => r + bI (B k)) i n (nI c) = nI (c + cnt B i n) := by
  intro n
  induction n with
  | zero => intro i c; rw [it_0]; rfl
  | succ n ih =>
    intro i c
    rw [it_s, ← nI_bN, nI_add, ih]
    show nI (c + bN (B i) + cnt B (i + 1) n) = nI (c + (bN (B i) + cnt B (i + 1) n))
    rw [Nat.add_assoc]
set_option maxRecDepth 100000 in
theorem bc_key : ∀ n : Nat, n < 256 → f_J6_bitCount_0f7a4 (nI n) = nI (cnt (fun k => n.testBit k) 0 8) := by decide +kernel
theorem bc_eq {m : Int32} (h : ∀ k, 8 ≤ k → Bt m k = false) : f_J6_bitCount_0f7a4 m = nI (cnt (Bt m) 0 8) := by
  have hl : m.toBitVec.toNat < 256 := Nat.lt_pow_two_of_testBit (n := 8) _ (fun i hi => by rw [BitVec.testBit_toNat]; exact h i hi)
  have e : m = nI m.toBitVec.toNat := by
    apply Int32.toBitVec_inj.mp
    show m.toBitVec = (Int32.ofNat m.toBitVec.toNat).toBitVec
    rw [Int32.toBitVec_ofNat', BitVec.ofNat_toNat, BitVec.setWidth_eq]
  have h2 := bc_key m.toBitVec.toNat hl
  rw [← e] at h2
  exact h2
