/-! what the functions say of indices -/
theorem i32_0 : (0 : Int32).toInt = 0 := rfl
theorem vp_isBeam {a : Int32} (h : f_X5_isBeam a = true) : vp_in a 3 := by
  unfold f_X5_isBeam at h
  rw [vp_in_iff]
  by_cases h1 : a < 0
  · rw [if_pos h1] at h; cases h
  · rw [if_neg h1] at h
    by_cases h2 : (3 : Int32) ≤ a
    · rw [if_pos h2] at h; cases h
    · have e1 : ¬ a.toInt < (0 : Int32).toInt := fun q => h1 (Int32.lt_iff_toInt_lt.mpr q)
      have e2 : ¬ (3 : Int32).toInt ≤ a.toInt := fun q => h2 (Int32.le_iff_toInt_le.mpr q)
      have z0 : (0 : Int32).toInt = 0 := rfl
      have z3 : (3 : Int32).toInt = 3 := rfl
      rw [z0] at e1
      rw [z3] at e2
      constructor <;> omega
theorem it_inv {α : Type} {f : Nat → α → α} {P : α → Prop} (N : Nat) (hs : ∀ k s, k < N → P s → P (f k s)) : ∀ (n i : Nat) (s : α), i + n ≤ N → P s → P (it f i n s) := by
  intro n
  induction n with
  | zero => intro i s _ h; rw [it_0]; exact h
  | succ n ih => intro i s hn h; rw [it_s]; exact ih (i + 1) (f i s) (by omega) (hs i s (by omega) h)
theorem vp_0add {x : Int32} (h : vp_in x 3) : vp_in ((0 : Int32) + x) 129 := by
  rw [Int32.zero_add]
  rw [vp_in_iff] at h ⊢
  constructor <;> omega
/-- where the beams are as they were -/
def KB (r0 r : Nat → Int32) : Prop := ∀ k, k < 8 → r ((6 + (7 * k)) + 0) = r0 ((6 + (7 * k)) + 0)
theorem KB.upd {r0 r : Nat → Int32} (h : KB r0 r) {i : Nat} (hi : ∀ k, k < 8 → (6 + (7 * k)) + 0 ≠ i) (v : Int32) : KB r0 (upd r i v) := fun k hk => (pk_un (hi k hk)).trans (h k hk)
/-- a row filled from place c on -/
theorem it_fill (g : Nat → Int32) (c : Nat) : ∀ (n i : Nat) (s : Nat → Int32) (j : Nat), it (fun k r => upd r (c + k) (g k)) i n s j = if c + i ≤ j ∧ j < c + i + n then g (j - c) else s j := by
  intro n
  induction n with
  | zero => intro i s j; rw [it_0, if_neg (by omega)]
  | succ n ih =>
    intro i s j
    rw [it_s, ih]
    rcases Classical.em (c + (i + 1) ≤ j ∧ j < c + (i + 1) + n) with h | h
    · rw [if_pos h, if_pos (by omega)]
    · rw [if_neg h]
      rcases Classical.em (j = c + i) with rfl | h2
      · rw [pk_us, if_pos (by omega)]
        congr 1
        omega
      · rw [pk_un h2, if_neg (by omega)]
theorem cod_in {i : Int32} {n : Nat} (h : n ≤ 60) (h1 : ¬ i < 0) (h2 : ¬ nI n ≤ i) : vp_in i 60 := by
  rw [vp_in_iff]
  have e1 : ¬ i.toInt < (0 : Int32).toInt := fun q => h1 (Int32.lt_iff_toInt_lt.mpr q)
  have e2 : ¬ (nI n).toInt ≤ i.toInt := fun q => h2 (Int32.le_iff_toInt_le.mpr q)
  rw [nI_toInt (by omega)] at e2
  rw [i32_0] at e1
  constructor <;> omega
theorem ful_lt {n : Nat} (h : n ≤ 60) (hc : ¬ f_X3_isFull n = true) : n < 60 := by
  rcases Nat.lt_or_ge n 60 with q | q
  · exact q
  · exfalso
    have e : n = 60 := by omega
    subst e
    exact hc (by decide)
theorem vp_isClock {a : Int32} (h : f_X5_isClock a = true) : vp_in a 8 := by
  unfold f_X5_isClock at h
  rw [vp_in_iff]
  by_cases h1 : a < 0
  · rw [if_pos h1] at h; cases h
  · rw [if_neg h1] at h
    by_cases h2 : (8 : Int32) ≤ a
    · rw [if_pos h2] at h; cases h
    · have e1 : ¬ a.toInt < (0 : Int32).toInt := fun q => h1 (Int32.lt_iff_toInt_lt.mpr q)
      have e2 : ¬ (8 : Int32).toInt ≤ a.toInt := fun q => h2 (Int32.le_iff_toInt_le.mpr q)
      have z3 : (8 : Int32).toInt = 8 := rfl
      rw [i32_0] at e1
      rw [z3] at e2
      constructor <;> omega
theorem vp_lt {x : Int32} {n : Nat} (h : vp_in x n) : x.toNatClampNeg < n := by
  rcases Nat.lt_or_ge x.toNatClampNeg n with q | q
  · exact q
  · exact absurd (Or.inr q) h
theorem vp_nI {x : Int32} {n : Nat} (h : vp_in x n) : nI x.toNatClampNeg = x := by
  obtain ⟨j, hj, e⟩ := nI_of (x := x) (fun q => h (Or.inl q))
  rw [e, nI_clamp hj]
theorem takes_lt {d : Nat} {l c n ch : Int32} {b : Bool} (h : d < 7) : (f_X3_takes d l c b n ch).2.1 < 7 := by
  unfold f_X3_takes f_X3_takesLetter f_X3_takesClock f_X3_takesSign f_X3_takesBeam f_X3_takesFirstDigit f_X3_takesNextDigit f_X3_takesEnd
  repeat' split
  all_goals first | exact h | (dsimp only; first | decide | omega | exact h)
theorem takes_clk {d : Nat} {l c n ch : Int32} {b : Bool} (h : vp_in c 8) : vp_in (f_X3_takes d l c b n ch).2.2.2.1 8 := by
  unfold f_X3_takes f_X3_takesLetter f_X3_takesClock f_X3_takesSign f_X3_takesBeam f_X3_takesFirstDigit f_X3_takesNextDigit f_X3_takesEnd
  repeat' split
  all_goals first | exact h | (apply vp_isClock; assumption)
theorem itx_all {α ρ : Type} {f : Nat → α → α ⊕ ρ} {P : α → Prop} {Q : ρ → Prop} (hs : ∀ k s, P s → Sum.elim P Q (f k s)) : ∀ (n i : Nat) (s : α), P s → Sum.elim P Q (itx f i n s) := by
  intro n
  induction n with
  | zero => intro i s h; rw [itx_0]; exact h
  | succ n ih =>
    intro i s h
    have h1 := hs i s h
    cases e : f i s with
    | inl s' => rw [itx_l _ _ _ _ _ e]; rw [e] at h1; exact ih (i + 1) s' h1
    | inr r => rw [itx_r _ _ _ _ _ e]; rw [e] at h1; exact h1
theorem ioe_all (codes : Nat → Int32) (length : Nat) (letter clock : Int32) (b : Bool) (n : Int32) (hc : vp_in clock 8) : (f_X3_indexOfError codes length letter clock b n).2.1 < 7 ∧ vp_in (f_X3_indexOfError codes length letter clock b n).2.2.2.1 8 := by
  have h := itx_all (f := L_X3_indexOfError_6 codes length) (P := fun s => s.1 < 7 ∧ vp_in s.2.2.1 8) (Q := fun r => r.2.1 < 7 ∧ vp_in r.2.2.2.1 8) (fun k s hs => by
    unfold L_X3_indexOfError_6
    split
    · exact ⟨takes_lt hs.1, takes_clk hs.2⟩
    · exact ⟨takes_lt hs.1, takes_clk hs.2⟩) length 0 (0, letter, clock, b, n) ⟨(show 0 < 7 by decide), hc⟩
  unfold f_X3_indexOfError
  have e0 : f_X3_startReading = 0 := rfl
  rw [e0]
  cases e : itx (L_X3_indexOfError_6 codes length) 0 length (0, letter, clock, b, n) with
  | inl s => rw [e] at h; exact h
  | inr r => rw [e] at h; exact h
theorem ioe_lt (codes : Nat → Int32) (length : Nat) (letter clock : Int32) (b : Bool) (n : Int32) : (f_X3_indexOfError codes length letter clock b n).2.1 < 7 := by
  have h := itx_all (f := L_X3_indexOfError_6 codes length) (P := fun s => s.1 < 7) (Q := fun r => r.2.1 < 7) (fun k s hs => by
    unfold L_X3_indexOfError_6
    split
    · exact takes_lt hs
    · exact takes_lt hs) length 0 (0, letter, clock, b, n) (show 0 < 7 by decide)
  unfold f_X3_indexOfError
  have e0 : f_X3_startReading = 0 := rfl
  rw [e0]
  cases e : itx (L_X3_indexOfError_6 codes length) 0 length (0, letter, clock, b, n) with
  | inl s => rw [e] at h; exact h
  | inr r => rw [e] at h; exact h
theorem isc_clk {codes : Nat → Int32} {length : Nat} {letter clock : Int32} {b : Bool} {n : Int32} (hc : vp_in clock 8) : vp_in (f_X3_isComplete codes length letter clock b n).2.2.2.1 8 := (ioe_all codes length letter clock b n hc).2
