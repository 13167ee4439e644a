theorem f5_clk {s : S5} (h : vp_in s.2.2.1 8) (ch : Int32) : vp_in (f5 s ch).2.2.2.1 8 := by
  unfold f5 f_X3_takes
  by_cases c1 : mapI s.1 = 1
  · rw [if_pos c1]; exact h
  rw [if_neg c1]
  by_cases c2 : mapI s.1 = 2
  · rw [if_pos c2]
    show vp_in (f_X3_takesClock s.1 s.2.1 s.2.2.1 ch).2.2 8
    unfold f_X3_takesClock
    by_cases cc : f_X5_isClock (ch - (48 : Int32)) = true
    · rw [if_pos cc]; exact vp_isClock cc
    · rw [if_neg cc]; exact h
  rw [if_neg c2]
  by_cases c3 : mapI s.1 = 3
  · rw [if_pos c3]; exact h
  rw [if_neg c3]
  by_cases c4 : mapI s.1 = 4
  · rw [if_pos c4]; exact h
  rw [if_neg c4]
  by_cases c5 : mapI s.1 = 5
  · rw [if_pos c5]; exact h
  rw [if_neg c5]
  by_cases c6 : mapI s.1 = 6
  · rw [if_pos c6]; exact h
  rw [if_neg c6]; exact h
theorem itx_inv {α ρ : Type} {f : Nat → α → α ⊕ ρ} {P : α → Prop} {Q : ρ → Prop} (h1 : ∀ i s s', P s → f i s = .inl s' → P s') (h2 : ∀ i s r, P s → f i s = .inr r → Q r) : ∀ (n i : Nat) (s : α), P s → (∃ s', itx f i n s = .inl s' ∧ P s') ∨ (∃ r, itx f i n s = .inr r ∧ Q r)
  | 0, i, s, h => Or.inl ⟨s, itx_0 f i s, h⟩
  | n + 1, i, s, h => by
    cases e : f i s with
    | inl s' =>
      rw [itx_l _ _ _ _ _ e]
      exact itx_inv h1 h2 n (i + 1) s' (h1 i s s' h e)
    | inr r => exact Or.inr ⟨r, itx_r _ _ _ _ _ e, h2 i s r h e⟩
section CLK
variable {codes : Nat → Int32} {len : Nat} {sp gv se : Nat → Int32}
theorem l6_clk {i : Nat} {s : S5} (h : vp_in s.2.2.1 8) : (∀ s', L_X3_indexOfError_6 codes len i s = .inl s' → vp_in s'.2.2.1 8) ∧ (∀ r, L_X3_indexOfError_6 codes len i s = .inr r → vp_in r.2.2.2.1 8) := by
  have hk := f5_clk h (f_X3_codeAt codes len (nI i))
  unfold f5 at hk
  unfold L_X3_indexOfError_6
  by_cases c : (f_X3_takes s.1 s.2.1 s.2.2.1 s.2.2.2.1 s.2.2.2.2 (f_X3_codeAt codes len (nI i))).1 = true
  · rw [if_pos c]
    exact ⟨fun s' e => (by cases e; exact hk), fun r e => by cases e⟩
  · rw [if_neg c]
    exact ⟨fun s' e => (by cases e), fun r e => by cases e; exact hk⟩
theorem err_clk {L K N : Int32} {B : Bool} (h : vp_in K 8) : vp_in (f_X3_indexOfError codes len L K B N).2.2.2.1 8 := by
  have ei : f_X3_indexOfError codes len L K B N = Sum.elim (fun (n6 : Nat × Int32 × Int32 × Bool × Int32) => ((nI len), n6.1, n6.2.1, n6.2.2.1, n6.2.2.2.1, n6.2.2.2.2)) (fun r => r) (itx (L_X3_indexOfError_6 codes len) 0 len (f_X3_startReading, L, K, B, N)) := rfl
  rcases itx_inv (f := L_X3_indexOfError_6 codes len) (P := fun s : S5 => vp_in s.2.2.1 8) (Q := fun r => vp_in r.2.2.2.1 8) (fun i s s' h e => (l6_clk h).1 s' e) (fun i s r h e => (l6_clk h).2 r e) len 0 (f_X3_startReading, L, K, B, N) h with ⟨s', e, hp⟩ | ⟨r, e, hq⟩
  · rw [ei, e]
    exact hp
  · rw [ei, e]
    exact hq
theorem comp_clk {L K N : Int32} {B : Bool} (h : vp_in K 8) : vp_in (f_X3_isComplete codes len L K B N).2.2.2.1 8 := err_clk h
def ck44 (S : Int32 × Int32 × (Nat → Int32) × (Nat → Int32) × (Nat → Int32) × (Nat → Int32) × (Nat → Int32) × (Nat → Int32) × (Nat → Int32) × Int32 × Int32 × Int32 × (Nat → Int32) × Nat × Int32 × Int32 × Bool × Int32) : Int32 := S.2.2.2.2.2.2.2.2.2.2.2.2.2.2.2.1
theorem l44_clk {i : Nat} {S : Int32 × Int32 × (Nat → Int32) × (Nat → Int32) × (Nat → Int32) × (Nat → Int32) × (Nat → Int32) × (Nat → Int32) × (Nat → Int32) × Int32 × Int32 × Int32 × (Nat → Int32) × Nat × Int32 × Int32 × Bool × Int32} (h : vp_in (ck44 S) 8) : (∀ s', L_X5_obey_44 sp gv se codes len i S = .inl s' → vp_in (ck44 s') 8) ∧ (∀ r, L_X5_obey_44 sp gv se codes len i S = .inr r → vp_in (ck44 r) 8) := by
  have hk := f5_clk (s := (S.2.2.2.2.2.2.2.2.2.2.2.2.2.1, S.2.2.2.2.2.2.2.2.2.2.2.2.2.2.1, S.2.2.2.2.2.2.2.2.2.2.2.2.2.2.2.1, S.2.2.2.2.2.2.2.2.2.2.2.2.2.2.2.2.1, S.2.2.2.2.2.2.2.2.2.2.2.2.2.2.2.2.2)) h (f_X3_codeAt codes len (nI i))
  unfold f5 at hk
  unfold L_X5_obey_44
  by_cases c : S.1 = 0
  · rw [if_pos c]
    exact ⟨fun s' e => (by cases e), fun r e => by cases e; exact h⟩
  · rw [if_neg c]
    exact ⟨fun s' e => (by cases e; exact hk), fun r e => by cases e⟩
theorem obey_clk (n i : Nat) {S : Int32 × Int32 × (Nat → Int32) × (Nat → Int32) × (Nat → Int32) × (Nat → Int32) × (Nat → Int32) × (Nat → Int32) × (Nat → Int32) × Int32 × Int32 × Int32 × (Nat → Int32) × Nat × Int32 × Int32 × Bool × Int32} (h : vp_in (ck44 S) 8) : vp_in (ck44 (unx (itx (L_X5_obey_44 sp gv se codes len) i n S))) 8 := by
  rcases itx_inv (f := L_X5_obey_44 sp gv se codes len) (P := fun S => vp_in (ck44 S) 8) (Q := fun S => vp_in (ck44 S) 8) (fun i s s' h e => (l44_clk h).1 s' e) (fun i s r h e => (l44_clk h).2 r e) n i S h with ⟨s', e, hp⟩ | ⟨r, e, hq⟩
  · rw [e]
    exact hp
  · rw [e]
    exact hq
end CLK

def ck_sD (x : UInt64) : Bool := decide (x &&& 0x7fffffffffffffff ≤ 0x7ff0000000000000) && decide ((Op.cmpValue (FP.dcmp x x) .l) = 0)
def ck_sF (x : UInt32) : Bool := decide (x &&& 0x7fffffff ≤ 0x7f800000) && (decide ((Op.cmpValue (FP.fcmp x x) .l) = 0) && (decide (FP.f2d x &&& 0x7fffffffffffffff ≤ 0x7ff0000000000000) && decide ((Op.cmpValue (FP.dcmp (FP.f2d x) (FP.f2d x)) .l) = 0)))
set_option maxRecDepth 100000 in
theorem ck_sD_ok : ∀ i, i < 9 → ck_sD (shD i) = true := by decide +kernel
set_option maxRecDepth 100000 in
theorem ck_sF_ok1 : ∀ i, i < 501 → ck_sF (shF (0 + i)) = true := by decide +kernel
set_option maxRecDepth 100000 in
theorem ck_sF_ok2 : ∀ i, i < 500 → ck_sF (shF (501 + i)) = true := by decide +kernel
set_option maxRecDepth 100000 in
theorem ck_sF_ok3 : ∀ i, i < 500 → ck_sF (shF (1001 + i)) = true := by decide +kernel
theorem ck_sF_ok {n : Nat} (h : n ≤ 1500) : ck_sF (shF n) = true := by
  by_cases c1 : n < 501
  · have := ck_sF_ok1 n c1
    rw [Nat.zero_add] at this
    exact this
  · by_cases c2 : n < 1001
    · have := ck_sF_ok2 (n - 501) (by omega)
      rw [show 501 + (n - 501) = n by omega] at this
      exact this
    · have := ck_sF_ok3 (n - 1001) (by omega)
      rw [show 1001 + (n - 1001) = n by omega] at this
      exact this
theorem okD_of {x : UInt64} (h : vf_okD x) : vf_n64 x ∧ (Op.cmpValue (FP.dcmp x x) .l) = 0 := by
  obtain ⟨n, h1, h2, e⟩ := h
  have := ck_sD_ok n (by omega)
  have e : x = shD n := e
  rw [← e] at this
  simp only [ck_sD, Bool.and_eq_true, decide_eq_true_eq] at this
  exact this
theorem okF_of {x : UInt32} (h : vf_okF x) : vf_n32 x ∧ (Op.cmpValue (FP.fcmp x x) .l) = 0 ∧ vf_n64 (FP.f2d x) ∧ (Op.cmpValue (FP.dcmp (FP.f2d x) (FP.f2d x)) .l) = 0 := by
  obtain ⟨n, h1, e⟩ := h
  have := ck_sF_ok h1
  have e : x = shF n := e
  rw [← e] at this
  simp only [ck_sF, Bool.and_eq_true, decide_eq_true_eq] at this
  exact this
