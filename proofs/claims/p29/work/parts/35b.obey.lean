/-! orders as a text: what is read and done hangs on the text alone -/
/-- two readers that hold alike what still counts -/
def PR (s s' : S5) : Prop :=
  (s.1 = 0 ∧ s'.1 = 0) ∨
  (∃ L K K' N N' : Int32, ∃ B B' : Bool, s = (1, L, K, B, N) ∧ s' = (1, L, K', B', N') ∧ (L = 107 ∨ L = 98 ∨ L = 119)) ∨
  (∃ K N N' : Int32, ∃ B B' : Bool, s = (2, 107, K, B, N) ∧ s' = (2, 107, K, B', N') ∧ vp_in K 8) ∨
  (∃ K N N' : Int32, ∃ B B' : Bool, s = (3, 98, K, B, N) ∧ s' = (3, 98, K, B', N') ∧ vp_in K 8) ∨
  (∃ K N N' : Int32, ∃ B : Bool, s = (4, 107, K, B, N) ∧ s' = (4, 107, K, B, N') ∧ vp_in K 8) ∨
  (∃ K K' N N' : Int32, ∃ B B' : Bool, s = (4, 116, K, B, N) ∧ s' = (4, 116, K', B', N')) ∨
  (∃ K N : Int32, ∃ B : Bool, s = (5, 107, K, B, N) ∧ s' = (5, 107, K, B, N) ∧ vp_in K 8 ∧ 1 ≤ N.toInt ∧ N.toInt ≤ 500) ∨
  (∃ K K' N : Int32, ∃ B B' : Bool, s = (5, 116, K, B, N) ∧ s' = (5, 116, K', B', N) ∧ 1 ≤ N.toInt ∧ N.toInt ≤ 99) ∨
  (∃ K N : Int32, ∃ B B' : Bool, s = (6, 98, K, B, N) ∧ s' = (6, 98, K, B', N) ∧ vp_in K 8) ∨
  (∃ K N N' : Int32, ∃ B B' : Bool, s = (6, 119, K, B, N) ∧ s' = (6, 119, K, B', N') ∧ vp_in K 8)
theorem isL_of {ch : Int32} (h : isL ch = true) : ch = 107 ∨ ch = 98 ∨ ch = 119 ∨ ch = 116 := by
  unfold isL at h
  by_cases c1 : ch = 107
  · exact Or.inl c1
  · rw [if_neg c1] at h
    by_cases c2 : ch = 98
    · exact Or.inr (Or.inl c2)
    · rw [if_neg c2] at h
      by_cases c3 : ch = 119
      · exact Or.inr (Or.inr (Or.inl c3))
      · rw [if_neg c3] at h
        by_cases c4 : ch = 116
        · exact Or.inr (Or.inr (Or.inr c4))
        · rw [if_neg c4] at h
          cases h
theorem digit_in {ch : Int32} (h1 : ¬ ch < (48 : Int32)) (h2 : ch ≤ (57 : Int32)) : 0 ≤ (ch - 48).toInt ∧ (ch - 48).toInt ≤ 9 := by
  have z1 : (48 : Int32).toInt = 48 := rfl
  have z2 : (57 : Int32).toInt = 57 := rfl
  have h2 := Int32.le_iff_toInt_le.mp h2
  have h1 : ¬ ch.toInt < (48 : Int32).toInt := fun q => h1 (Int32.lt_iff_toInt_lt.mpr q)
  rw [sub_toInt (by omega) (by omega)]
  omega
theorem next_in {N ch most : Int32} {m : Int} (hm : most.toInt = m) (hm2 : m ≤ 500) (h1 : ¬ ch < (48 : Int32)) (h2 : ch ≤ (57 : Int32)) (hn : 1 ≤ N.toInt ∧ N.toInt ≤ 500) (h3 : N * (10 : Int32) + ch - (48 : Int32) ≤ most) : 1 ≤ (N * (10 : Int32) + ch - (48 : Int32)).toInt ∧ (N * (10 : Int32) + ch - (48 : Int32)).toInt ≤ m := by
  have z1 : (48 : Int32).toInt = 48 := rfl
  have z2 : (57 : Int32).toInt = 57 := rfl
  have z3 : (10 : Int32).toInt = 10 := rfl
  have h2 := Int32.le_iff_toInt_le.mp h2
  have h1 : ¬ ch.toInt < (48 : Int32).toInt := fun q => h1 (Int32.lt_iff_toInt_lt.mpr q)
  have h3 := Int32.le_iff_toInt_le.mp h3
  have e1 : (N * (10 : Int32)).toInt = N.toInt * 10 := by
    rw [Int32.toInt_mul, z3]
    exact Int.bmod_eq_of_le (by omega) (by omega)
  have e2 : (N * (10 : Int32) + ch).toInt = N.toInt * 10 + ch.toInt := by rw [add_toInt (by omega) (by omega), e1]
  have e3 : (N * (10 : Int32) + ch - (48 : Int32)).toInt = N.toInt * 10 + ch.toInt - 48 := by rw [sub_toInt (by omega) (by omega), e2, z1]
  omega
/-- one character more -/
def PS (a b : Bool × S5) : Prop := (a.1 = false ∧ b.1 = false) ∨ (a.1 = true ∧ b.1 = true ∧ PR a.2 b.2)
set_option maxHeartbeats 4000000 in
theorem PR_step {s s' : S5} (h : PR s s') (ch : Int32) : PS (f5 s ch) (f5 s' ch) := by
  rcases h with ⟨h0, h0'⟩ | ⟨L, K, K', N, N', B, B', e1, e2, hL⟩ | ⟨K, N, N', B, B', e1, e2, hK⟩ | ⟨K, N, N', B, B', e1, e2, hK⟩ | ⟨K, N, N', B, e1, e2, hK⟩ | ⟨K, K', N, N', B, B', e1, e2⟩ | ⟨K, N, B, e1, e2, hK, hN⟩ | ⟨K, K', N, B, B', e1, e2, hN⟩ | ⟨K, N, B, B', e1, e2, hK⟩ | ⟨K, N, N', B, B', e1, e2, hK⟩
  · obtain ⟨D, L, K, B, N⟩ := s
    obtain ⟨D', L', K', B', N'⟩ := s'
    have h0 : D = 0 := h0
    have h0' : D' = 0 := h0'
    subst h0
    subst h0'
    cases c : isL ch
    · exact Or.inl ⟨f5_0n c, f5_0n c⟩
    · right
      rw [f5_0 c, f5_0 c]
      refine ⟨rfl, rfl, ?_⟩
      rcases isL_of c with e | e | e | e <;> subst e
      · exact Or.inr (Or.inl ⟨_, _, _, _, _, _, _, rfl, rfl, Or.inl rfl⟩)
      · exact Or.inr (Or.inl ⟨_, _, _, _, _, _, _, rfl, rfl, Or.inr (Or.inl rfl)⟩)
      · exact Or.inr (Or.inl ⟨_, _, _, _, _, _, _, rfl, rfl, Or.inr (Or.inr rfl)⟩)
      · exact Or.inr (Or.inr (Or.inr (Or.inr (Or.inr (Or.inl ⟨_, _, _, _, _, _, rfl, rfl⟩)))))
  · subst e1
    subst e2
    by_cases c : f_X5_isClock (ch - (48 : Int32)) = true
    · right
      rw [f5_1 c, f5_1 c]
      have hv := vp_isClock c
      refine ⟨rfl, rfl, ?_⟩
      rcases hL with e | e | e <;> subst e
      · exact Or.inr (Or.inr (Or.inl ⟨_, _, _, _, _, rfl, rfl, hv⟩))
      · exact Or.inr (Or.inr (Or.inr (Or.inl ⟨_, _, _, _, _, rfl, rfl, hv⟩)))
      · exact Or.inr (Or.inr (Or.inr (Or.inr (Or.inr (Or.inr (Or.inr (Or.inr (Or.inr ⟨_, _, _, _, _, rfl, rfl, hv⟩))))))))
    · exact Or.inl ⟨f5_1n c, f5_1n c⟩
  · subst e1
    subst e2
    by_cases c : ch = (43 : Int32)
    · right
      rw [f5_2p c, f5_2p c]
      exact ⟨rfl, rfl, Or.inr (Or.inr (Or.inr (Or.inr (Or.inl ⟨_, _, _, _, rfl, rfl, hK⟩))))⟩
    · by_cases c2 : ch = (45 : Int32)
      · right
        rw [f5_2m c2, f5_2m c2]
        exact ⟨rfl, rfl, Or.inr (Or.inr (Or.inr (Or.inr (Or.inl ⟨_, _, _, _, rfl, rfl, hK⟩))))⟩
      · exact Or.inl ⟨f5_2n c c2, f5_2n c c2⟩
  · subst e1
    subst e2
    by_cases c : f_X5_isBeam (ch - (48 : Int32)) = true
    · right
      rw [f5_3 c, f5_3 c]
      exact ⟨rfl, rfl, Or.inr (Or.inr (Or.inr (Or.inr (Or.inr (Or.inr (Or.inr (Or.inr (Or.inl ⟨_, _, _, _, rfl, rfl, hK⟩))))))))⟩
    · exact Or.inl ⟨f5_3n c, f5_3n c⟩
  · subst e1
    subst e2
    by_cases c : ch < (49 : Int32) ∨ ¬ ch ≤ (57 : Int32)
    · exact Or.inl ⟨f5_4n c, f5_4n c⟩
    · have c1 : ¬ ch < (49 : Int32) := fun q => c (Or.inl q)
      have c2 : ch ≤ (57 : Int32) := Classical.not_not.mp (fun q => c (Or.inr q))
      right
      rw [f5_4 c1 c2, f5_4 c1 c2]
      have z1 : (48 : Int32).toInt = 48 := rfl
      have z4 : (49 : Int32).toInt = 49 := rfl
      have z2 : (57 : Int32).toInt = 57 := rfl
      have c2 := Int32.le_iff_toInt_le.mp c2
      have c1 : ¬ ch.toInt < (49 : Int32).toInt := fun q => c1 (Int32.lt_iff_toInt_lt.mpr q)
      have e : (ch - 48).toInt = ch.toInt - 48 := by rw [sub_toInt (by omega) (by omega), z1]
      exact ⟨rfl, rfl, Or.inr (Or.inr (Or.inr (Or.inr (Or.inr (Or.inr (Or.inl ⟨_, _, _, rfl, rfl, hK, by omega, by omega⟩))))))⟩
  · subst e1
    subst e2
    by_cases c : ch < (49 : Int32) ∨ ¬ ch ≤ (57 : Int32)
    · exact Or.inl ⟨f5_4n c, f5_4n c⟩
    · have c1 : ¬ ch < (49 : Int32) := fun q => c (Or.inl q)
      have c2 : ch ≤ (57 : Int32) := Classical.not_not.mp (fun q => c (Or.inr q))
      right
      rw [f5_4 c1 c2, f5_4 c1 c2]
      have z1 : (48 : Int32).toInt = 48 := rfl
      have z4 : (49 : Int32).toInt = 49 := rfl
      have z2 : (57 : Int32).toInt = 57 := rfl
      have c2 := Int32.le_iff_toInt_le.mp c2
      have c1 : ¬ ch.toInt < (49 : Int32).toInt := fun q => c1 (Int32.lt_iff_toInt_lt.mpr q)
      have e : (ch - 48).toInt = ch.toInt - 48 := by rw [sub_toInt (by omega) (by omega), z1]
      exact ⟨rfl, rfl, Or.inr (Or.inr (Or.inr (Or.inr (Or.inr (Or.inr (Or.inr (Or.inl ⟨_, _, _, _, _, rfl, rfl, by omega, by omega⟩)))))))⟩
  · subst e1
    subst e2
    by_cases c : ch = (59 : Int32)
    · subst c
      right
      rw [f5_5e]
      exact ⟨rfl, rfl, Or.inl ⟨rfl, rfl⟩⟩
    · by_cases c2 : (ch < (48 : Int32) ∨ ¬ ch ≤ (57 : Int32)) ∨ ¬ N * (10 : Int32) + ch - (48 : Int32) ≤ (if (107 : Int32) = (107 : Int32) then (500 : Int32) else (99 : Int32))
      · exact Or.inl ⟨f5_5n c c2, f5_5n c c2⟩
      · have q1 : ¬ ch < (48 : Int32) := fun q => c2 (Or.inl (Or.inl q))
        have q2 : ch ≤ (57 : Int32) := Classical.not_not.mp (fun q => c2 (Or.inl (Or.inr q)))
        have q3 : N * (10 : Int32) + ch - (48 : Int32) ≤ (if (107 : Int32) = (107 : Int32) then (500 : Int32) else (99 : Int32)) := Classical.not_not.mp (fun q => c2 (Or.inr q))
        right
        rw [f5_5d q1 q2 q3]
        exact ⟨rfl, rfl, Or.inr (Or.inr (Or.inr (Or.inr (Or.inr (Or.inr (Or.inl ⟨_, _, _, rfl, rfl, hK, next_in (m := 500) (by decide) (by decide) q1 q2 hN q3⟩))))))⟩
  · subst e1
    subst e2
    by_cases c : ch = (59 : Int32)
    · subst c
      right
      rw [f5_5e, f5_5e]
      exact ⟨rfl, rfl, Or.inl ⟨rfl, rfl⟩⟩
    · by_cases c2 : (ch < (48 : Int32) ∨ ¬ ch ≤ (57 : Int32)) ∨ ¬ N * (10 : Int32) + ch - (48 : Int32) ≤ (if (116 : Int32) = (107 : Int32) then (500 : Int32) else (99 : Int32))
      · exact Or.inl ⟨f5_5n c c2, f5_5n c c2⟩
      · have q1 : ¬ ch < (48 : Int32) := fun q => c2 (Or.inl (Or.inl q))
        have q2 : ch ≤ (57 : Int32) := Classical.not_not.mp (fun q => c2 (Or.inl (Or.inr q)))
        have q3 : N * (10 : Int32) + ch - (48 : Int32) ≤ (if (116 : Int32) = (107 : Int32) then (500 : Int32) else (99 : Int32)) := Classical.not_not.mp (fun q => c2 (Or.inr q))
        right
        rw [f5_5d q1 q2 q3, f5_5d q1 q2 q3]
        exact ⟨rfl, rfl, Or.inr (Or.inr (Or.inr (Or.inr (Or.inr (Or.inr (Or.inr (Or.inl ⟨_, _, _, _, _, rfl, rfl, next_in (m := 99) (by decide) (by decide) q1 q2 ⟨hN.1, by omega⟩ q3⟩)))))))⟩
  · subst e1
    subst e2
    by_cases c : ch = (59 : Int32)
    · subst c
      right
      rw [f5_6e, f5_6e]
      exact ⟨rfl, rfl, Or.inl ⟨rfl, rfl⟩⟩
    · exact Or.inl ⟨f5_6n c, f5_6n c⟩
  · subst e1
    subst e2
    by_cases c : ch = (59 : Int32)
    · subst c
      right
      rw [f5_6e, f5_6e]
      exact ⟨rfl, rfl, Or.inl ⟨rfl, rfl⟩⟩
    · exact Or.inl ⟨f5_6n c, f5_6n c⟩
theorem PR_due {s s' : S5} (h : PR s s') : s.1 = s'.1 := by
  rcases h with ⟨h0, h0'⟩ | ⟨L, K, K', N, N', B, B', e1, e2, hL⟩ | ⟨K, N, N', B, B', e1, e2, hK⟩ | ⟨K, N, N', B, B', e1, e2, hK⟩ | ⟨K, N, N', B, e1, e2, hK⟩ | ⟨K, K', N, N', B, B', e1, e2⟩ | ⟨K, N, B, e1, e2, hK, hN⟩ | ⟨K, K', N, B, B', e1, e2, hN⟩ | ⟨K, N, B, B', e1, e2, hK⟩ | ⟨K, N, N', B, B', e1, e2, hK⟩
  · rw [h0, h0']
  all_goals rw [e1, e2]
/-- an order's end can only stand behind a number or an end -/
theorem PR_semi {s s' : S5} (h : PR s s') (ht : (f5 s (59 : Int32)).1 = true) : s.1 = 5 ∨ s.1 = 6 := by
  rcases h with ⟨h0, h0'⟩ | ⟨L, K, K', N, N', B, B', e1, e2, hL⟩ | ⟨K, N, N', B, B', e1, e2, hK⟩ | ⟨K, N, N', B, B', e1, e2, hK⟩ | ⟨K, N, N', B, e1, e2, hK⟩ | ⟨K, K', N, N', B, B', e1, e2⟩ | ⟨K, N, B, e1, e2, hK, hN⟩ | ⟨K, K', N, B, B', e1, e2, hN⟩ | ⟨K, N, B, B', e1, e2, hK⟩ | ⟨K, N, N', B, B', e1, e2, hK⟩
  · obtain ⟨D, L, K, B, N⟩ := s
    have h0 : D = 0 := h0
    subst h0
    rw [f5_0n (by decide +kernel)] at ht
    cases ht
  · rw [e1, f5_1n (by decide +kernel)] at ht
    cases ht
  · rw [e1, f5_2n (by decide +kernel) (by decide +kernel)] at ht
    cases ht
  · rw [e1, f5_3n (by decide +kernel)] at ht
    cases ht
  · rw [e1, f5_4n (Or.inr (by decide +kernel))] at ht
    cases ht
  · rw [e1, f5_4n (Or.inr (by decide +kernel))] at ht
    cases ht
  · exact Or.inl (by rw [e1])
  · exact Or.inl (by rw [e1])
  · exact Or.inr (by rw [e1])
  · exact Or.inr (by rw [e1])
