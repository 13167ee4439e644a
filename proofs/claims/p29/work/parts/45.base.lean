/-! what the law's own methods tell: places, and the number of all that is told -/
theorem w_ok {k : Nat} (n : Nat) {m : Int32} (e : m = nI n) (hk : k ≤ n) (hn : n < 1000) : (¬ (nI k < 0)) ∧ nI k ≤ m := by
  rw [e]
  exact ⟨nI_pos (by omega), nI_le hk (by omega)⟩
theorem clk_ok {k : Nat} (h : k < 8) : f_X5_isClock (nI k) = true := by
  rcases lt8 h with q | q | q | q | q | q | q | q <;> subst q <;> decide +kernel
theorem bm_ok {k : Nat} (h : k < 3) : f_X5_isBeam (nI k) = true := by
  have h3 : k = 0 ∨ k = 1 ∨ k = 2 := by omega
  rcases h3 with q | q | q <;> subst q <;> decide +kernel
theorem se_ok {k : Nat} (h : k < 3) : f_X5_isSetting (nI k) = true := bm_ok h
theorem par_ok {a b : Nat} (ha : a < 8) (hb : b < 8) (hne : a ≠ b) : f_X5_isPair (nI a) (nI b) = true := by
  unfold f_X5_isPair
  rw [if_pos (clk_ok ha), if_pos (clk_ok hb), if_neg (fun q => hne ((nI_eq (by omega) (by omega)).mp q))]
def nw1 (A : Ab) : Nat → Int64
  | 0 => 137
  | k + 1 => (31 : Int64) * nw1 A k + countA A (nI k)
def nwc (A : Ab) (a : Nat) (v : Int64) : Nat → Int64
  | 0 => v
  | k + 1 => (31 : Int64) * nwc A a v k + clockA A (nI a) (nI k)
def nwp (A : Ab) (a : Nat) (v : Int64) : Nat → Int64
  | 0 => v
  | k + 1 => (31 : Int64) * nwp A a v k + pairA A (nI a) (nI k) (1 : Int32)
def nw2 (A : Ab) (v : Int64) : Nat → Int64
  | 0 => v
  | a + 1 => nwp A a (nwc A a (nw2 A v a) 11) a
def nw3 (A : Ab) (v : Int64) : Nat → Int64
  | 0 => v
  | b + 1 => (31 : Int64) * nw3 A v b + (97 : Int64) * beamA A (nI b) (0 : Int32) + settingA A (nI b)
def nowV (A : Ab) : Int64 := nw3 A (nw2 A (nw1 A 9) 8) 3
theorem cntV_n (z : StT) (n n' : Nat) {k : Nat} (hk : k < 9) : cntV z n (nI k) = cntV z n' (nI k) := by
  have h : k = 0 ∨ k = 1 ∨ k = 2 ∨ k = 3 ∨ k = 4 ∨ k = 5 ∨ k = 6 ∨ k = 7 ∨ k = 8 := by omega
  rcases h with q | q | q | q | q | q | q | q | q <;> subst q <;> rfl
theorem nw1_eq {A B : Ab} (h : A.1 = B.1) : ∀ k, k ≤ 9 → nw1 A k = nw1 B k
  | 0, _ => rfl
  | k + 1, hk => by
    show (31 : Int64) * nw1 A k + countA A (nI k) = (31 : Int64) * nw1 B k + countA B (nI k)
    rw [nw1_eq h k (by omega)]
    unfold countA
    rw [h, cntV_n B.1 A.2.2.1.length B.2.2.1.length (by omega)]
theorem nwc_eq {A B : Ab} (h : A.1 = B.1) (a : Nat) (v : Int64) : ∀ k, nwc A a v k = nwc B a v k
  | 0 => rfl
  | k + 1 => by
    show (31 : Int64) * nwc A a v k + clockA A (nI a) (nI k) = (31 : Int64) * nwc B a v k + clockA B (nI a) (nI k)
    rw [nwc_eq h a v k]
    unfold clockA
    rw [h]
theorem nwp_eq {A B : Ab} (h : A.1 = B.1) (a : Nat) (v : Int64) : ∀ k, nwp A a v k = nwp B a v k
  | 0 => rfl
  | k + 1 => by
    show (31 : Int64) * nwp A a v k + pairA A (nI a) (nI k) 1 = (31 : Int64) * nwp B a v k + pairA B (nI a) (nI k) 1
    rw [nwp_eq h a v k]
    unfold pairA
    rw [h]
theorem nw2_eq {A B : Ab} (h : A.1 = B.1) (v : Int64) : ∀ k, nw2 A v k = nw2 B v k
  | 0 => rfl
  | k + 1 => by
    show nwp A k (nwc A k (nw2 A v k) 11) k = nwp B k (nwc B k (nw2 B v k) 11) k
    rw [nw2_eq h v k, nwc_eq h, nwp_eq h]
theorem nw3_eq {A B : Ab} (h : A.1 = B.1) (v : Int64) : ∀ k, nw3 A v k = nw3 B v k
  | 0 => rfl
  | k + 1 => by
    show (31 : Int64) * nw3 A v k + (97 : Int64) * beamA A (nI k) 0 + settingA A (nI k) = (31 : Int64) * nw3 B v k + (97 : Int64) * beamA B (nI k) 0 + settingA B (nI k)
    rw [nw3_eq h v k]
    unfold beamA settingA
    rw [h]
/-- what is told hangs on the state alone -/
theorem nowV_eq {A B : Ab} (h : A.1 = B.1) : nowV A = nowV B := by
  unfold nowV
  rw [nw1_eq h 9 (by omega), nw2_eq h, nw3_eq h]
