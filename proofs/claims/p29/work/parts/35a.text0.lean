abbrev S5 : Type := Nat × Int32 × Int32 × Bool × Int32
def f5 (s : S5) (ch : Int32) : Bool × S5 := f_X3_takes s.1 s.2.1 s.2.2.1 s.2.2.2.1 s.2.2.2.2 ch
section STEPS
variable {L K N : Int32} {B : Bool} {ch : Int32}
def isL (ch : Int32) : Bool := (if ch = (107 : Int32) then true else (if ch = (98 : Int32) then true else (if ch = (119 : Int32) then true else (if ch = (116 : Int32) then true else false))))
theorem f5_0 (h : isL ch = true) : f5 (0, L, K, B, N) ch = (true, (if ch = (116 : Int32) then 4 else 1), ch, K, B, N) := by
  show f_X3_takes 0 L K B N ch = _
  unfold f_X3_takes f_X3_takesLetter
  unfold isL at h
  rw [if_pos (show mapI 0 = 1 from rfl)]
  by_cases c1 : ch = 107
  · rw [if_pos c1]
  · rw [if_neg c1] at h ⊢
    by_cases c2 : ch = 98
    · rw [if_pos c2]
    · rw [if_neg c2] at h ⊢
      by_cases c3 : ch = 119
      · rw [if_pos c3]
      · rw [if_neg c3] at h ⊢
        by_cases c4 : ch = 116
        · rw [if_pos c4]
        · rw [if_neg c4] at h
          cases h
theorem f5_0n (h : isL ch = false) : (f5 (0, L, K, B, N) ch).1 = false := by
  show (f_X3_takes 0 L K B N ch).1 = false
  unfold f_X3_takes f_X3_takesLetter
  unfold isL at h
  rw [if_pos (show mapI 0 = 1 from rfl)]
  by_cases c1 : ch = 107
  · rw [if_pos c1] at h; cases h
  · rw [if_neg c1] at h ⊢
    by_cases c2 : ch = 98
    · rw [if_pos c2] at h; cases h
    · rw [if_neg c2] at h ⊢
      by_cases c3 : ch = 119
      · rw [if_pos c3] at h; cases h
      · rw [if_neg c3] at h ⊢
        by_cases c4 : ch = 116
        · rw [if_pos c4] at h; cases h
        · rw [if_neg c4]
theorem f5_1 (h : f_X5_isClock (ch - (48 : Int32)) = true) : f5 (1, L, K, B, N) ch = (true, (if L = (107 : Int32) then 2 else (if L = (98 : Int32) then 3 else 6)), L, ch - (48 : Int32), B, N) := by
  show f_X3_takes 1 L K B N ch = _
  unfold f_X3_takes f_X3_takesClock
  rw [if_neg (show ¬ mapI 1 = 1 by decide), if_pos (show mapI 1 = 2 from rfl), if_pos h]
theorem f5_1n (h : ¬ f_X5_isClock (ch - (48 : Int32)) = true) : (f5 (1, L, K, B, N) ch).1 = false := by
  show (f_X3_takes 1 L K B N ch).1 = false
  unfold f_X3_takes f_X3_takesClock
  rw [if_neg (show ¬ mapI 1 = 1 by decide), if_pos (show mapI 1 = 2 from rfl), if_neg h]
theorem f5_2p (h : ch = (43 : Int32)) : f5 (2, L, K, B, N) ch = (true, 4, L, K, false, N) := by
  show f_X3_takes 2 L K B N ch = _
  unfold f_X3_takes f_X3_takesSign
  rw [if_neg (show ¬ mapI 2 = 1 by decide), if_neg (show ¬ mapI 2 = 2 by decide), if_pos (show mapI 2 = 3 from rfl), if_pos h, if_neg (by rw [h]; decide)]
theorem f5_2m (h : ch = (45 : Int32)) : f5 (2, L, K, B, N) ch = (true, 4, L, K, true, N) := by
  show f_X3_takes 2 L K B N ch = _
  unfold f_X3_takes f_X3_takesSign
  rw [if_neg (show ¬ mapI 2 = 1 by decide), if_neg (show ¬ mapI 2 = 2 by decide), if_pos (show mapI 2 = 3 from rfl), if_neg (by rw [h]; decide), if_pos h, if_pos h]
theorem f5_2n (h1 : ¬ ch = (43 : Int32)) (h2 : ¬ ch = (45 : Int32)) : (f5 (2, L, K, B, N) ch).1 = false := by
  show (f_X3_takes 2 L K B N ch).1 = false
  unfold f_X3_takes f_X3_takesSign
  rw [if_neg (show ¬ mapI 2 = 1 by decide), if_neg (show ¬ mapI 2 = 2 by decide), if_pos (show mapI 2 = 3 from rfl), if_neg h1, if_neg h2]
theorem f5_3 (h : f_X5_isBeam (ch - (48 : Int32)) = true) : f5 (3, L, K, B, N) ch = (true, 6, L, K, B, ch - (48 : Int32)) := by
  show f_X3_takes 3 L K B N ch = _
  unfold f_X3_takes f_X3_takesBeam
  rw [if_neg (show ¬ mapI 3 = 1 by decide), if_neg (show ¬ mapI 3 = 2 by decide), if_neg (show ¬ mapI 3 = 3 by decide), if_pos (show mapI 3 = 4 from rfl), if_pos h]
theorem f5_3n (h : ¬ f_X5_isBeam (ch - (48 : Int32)) = true) : (f5 (3, L, K, B, N) ch).1 = false := by
  show (f_X3_takes 3 L K B N ch).1 = false
  unfold f_X3_takes f_X3_takesBeam
  rw [if_neg (show ¬ mapI 3 = 1 by decide), if_neg (show ¬ mapI 3 = 2 by decide), if_neg (show ¬ mapI 3 = 3 by decide), if_pos (show mapI 3 = 4 from rfl), if_neg h]
theorem f5_4 (h1 : ¬ ch < (49 : Int32)) (h2 : ch ≤ (57 : Int32)) : f5 (4, L, K, B, N) ch = (true, 5, L, K, B, ch - (48 : Int32)) := by
  show f_X3_takes 4 L K B N ch = _
  unfold f_X3_takes f_X3_takesFirstDigit
  rw [if_neg (show ¬ mapI 4 = 1 by decide), if_neg (show ¬ mapI 4 = 2 by decide), if_neg (show ¬ mapI 4 = 3 by decide), if_neg (show ¬ mapI 4 = 4 by decide), if_pos (show mapI 4 = 5 from rfl), if_neg h1, if_pos h2]
theorem f5_4n (h : ch < (49 : Int32) ∨ ¬ ch ≤ (57 : Int32)) : (f5 (4, L, K, B, N) ch).1 = false := by
  show (f_X3_takes 4 L K B N ch).1 = false
  unfold f_X3_takes f_X3_takesFirstDigit
  rw [if_neg (show ¬ mapI 4 = 1 by decide), if_neg (show ¬ mapI 4 = 2 by decide), if_neg (show ¬ mapI 4 = 3 by decide), if_neg (show ¬ mapI 4 = 4 by decide), if_pos (show mapI 4 = 5 from rfl)]
  by_cases c : ch < 49
  · rw [if_pos c]
  · rw [if_neg c, if_neg (h.resolve_left c)]
theorem f5_5 : f5 (5, L, K, B, N) ch = ((if ch = (59 : Int32) then (f_X3_takesEnd 5 ch).1 else (f_X3_takesNextDigit L N ch).1), (if ch = (59 : Int32) then (f_X3_takesEnd 5 ch).2 else 5), L, K, B, (if ch = (59 : Int32) then N else (f_X3_takesNextDigit L N ch).2)) := by
  show f_X3_takes 5 L K B N ch = _
  unfold f_X3_takes
  rw [if_neg (show ¬ mapI 5 = 1 by decide), if_neg (show ¬ mapI 5 = 2 by decide), if_neg (show ¬ mapI 5 = 3 by decide), if_neg (show ¬ mapI 5 = 4 by decide), if_neg (show ¬ mapI 5 = 5 by decide), if_pos (show mapI 5 = 6 from rfl)]
theorem f5_5e : f5 (5, L, K, B, N) (59 : Int32) = (true, 0, L, K, B, N) := by
  rw [f5_5, if_pos rfl, if_pos rfl, if_pos rfl]
  rfl
theorem f5_5d (h1 : ¬ ch < (48 : Int32)) (h2 : ch ≤ (57 : Int32)) (h3 : N * (10 : Int32) + ch - (48 : Int32) ≤ (if L = (107 : Int32) then (500 : Int32) else (99 : Int32))) : f5 (5, L, K, B, N) ch = (true, 5, L, K, B, N * (10 : Int32) + ch - (48 : Int32)) := by
  have c : ¬ ch = (59 : Int32) := fun q => by rw [q] at h2; exact absurd h2 (by decide)
  rw [f5_5, if_neg c, if_neg c, if_neg c]
  unfold f_X3_takesNextDigit
  rw [if_neg h1, if_pos h2, if_pos h3]
theorem f5_5n (c : ¬ ch = (59 : Int32)) (h : (ch < (48 : Int32) ∨ ¬ ch ≤ (57 : Int32)) ∨ ¬ N * (10 : Int32) + ch - (48 : Int32) ≤ (if L = (107 : Int32) then (500 : Int32) else (99 : Int32))) : (f5 (5, L, K, B, N) ch).1 = false := by
  rw [f5_5, if_neg c, if_neg c, if_neg c]
  show (f_X3_takesNextDigit L N ch).1 = false
  unfold f_X3_takesNextDigit
  by_cases c1 : ch < 48
  · rw [if_pos c1]
  · rw [if_neg c1]
    by_cases c2 : ch ≤ 57
    · rw [if_pos c2]
      rcases h with h | h
      · exact absurd c2 (h.resolve_left c1)
      · rw [if_neg h]
    · rw [if_neg c2]
theorem f5_6e : f5 (6, L, K, B, N) (59 : Int32) = (true, 0, L, K, B, N) := by
  show f_X3_takes 6 L K B N (59 : Int32) = _
  unfold f_X3_takes f_X3_takesEnd
  rw [if_neg (show ¬ mapI 6 = 1 by decide), if_neg (show ¬ mapI 6 = 2 by decide), if_neg (show ¬ mapI 6 = 3 by decide), if_neg (show ¬ mapI 6 = 4 by decide), if_neg (show ¬ mapI 6 = 5 by decide), if_neg (show ¬ mapI 6 = 6 by decide), if_pos rfl]
theorem f5_6n (c : ¬ ch = (59 : Int32)) : (f5 (6, L, K, B, N) ch).1 = false := by
  show (f_X3_takes 6 L K B N ch).1 = false
  unfold f_X3_takes f_X3_takesEnd
  rw [if_neg (show ¬ mapI 6 = 1 by decide), if_neg (show ¬ mapI 6 = 2 by decide), if_neg (show ¬ mapI 6 = 3 by decide), if_neg (show ¬ mapI 6 = 4 by decide), if_neg (show ¬ mapI 6 = 5 by decide), if_neg (show ¬ mapI 6 = 6 by decide), if_neg c]
end STEPS

section RD
variable {t codes : Nat → Int32} {len : Nat}
/-- both hold the same text -/
def Same (codes t : Nat → Int32) (len : Nat) : Prop := ∀ j, j < len → codes j = t j
theorem codeAt_eq (hs : Same codes t len) (hl : len ≤ 60) {j : Nat} (hj : j < len) : f_X3_codeAt codes len (nI j) = t j := by
  unfold f_X3_codeAt
  rw [if_neg (nI_pos (by omega)), if_neg (nI_ge hj (by omega)), nI_clamp (by omega), hs j hj]
theorem l6_ok (hs : Same codes t len) (hl : len ≤ 60) {j : Nat} (hj : j < len) {s s' : S5} (h : f5 s (t j) = (true, s')) : L_X3_indexOfError_6 codes len j s = .inl s' := by
  have h2 : f5 s (f_X3_codeAt codes len (nI j)) = (true, s') := by rw [codeAt_eq hs hl hj]; exact h
  unfold f5 at h2
  unfold L_X3_indexOfError_6
  rw [h2]
  rfl
theorem l6_no (hs : Same codes t len) (hl : len ≤ 60) {j : Nat} (hj : j < len) {s : S5} (h : (f5 s (t j)).1 = false) : ∃ st, L_X3_indexOfError_6 codes len j s = .inr (nI j, st) := by
  have h2 : ∃ s', f5 s (f_X3_codeAt codes len (nI j)) = (false, s') := ⟨(f5 s (t j)).2, by rw [codeAt_eq hs hl hj, ← h]⟩
  obtain ⟨s', h2⟩ := h2
  unfold f5 at h2
  unfold L_X3_indexOfError_6
  rw [h2]
  exact ⟨_, rfl⟩
theorem nI_ne {a b : Nat} (ha : a < 2 ^ 31) (hb : b < 2 ^ 31) (h : ¬ a = b) : ¬ nI a = nI b := fun q => h ((nI_eq ha hb).mp q)
end RD


abbrev Z11 : Type := (Nat → Int32) × (Nat → Int32) × (Nat → Int32) × (Nat → Int32) × (Nat → Int32) × (Nat → Int32) × (Nat → Int32) × Int32 × Int32 × Int32 × (Nat → Int32)
def mk44 (d n : Int32) (Z : Z11) (s : S5) : Int32 × Int32 × (Nat → Int32) × (Nat → Int32) × (Nat → Int32) × (Nat → Int32) × (Nat → Int32) × (Nat → Int32) × (Nat → Int32) × Int32 × Int32 × Int32 × (Nat → Int32) × Nat × Int32 × Int32 × Bool × Int32 :=
  (d, n, Z.1, Z.2.1, Z.2.2.1, Z.2.2.2.1, Z.2.2.2.2.1, Z.2.2.2.2.2.1, Z.2.2.2.2.2.2.1, Z.2.2.2.2.2.2.2.1, Z.2.2.2.2.2.2.2.2.1, Z.2.2.2.2.2.2.2.2.2.1, Z.2.2.2.2.2.2.2.2.2.2, s.1, s.2.1, s.2.2.1, s.2.2.2.1, s.2.2.2.2)
def doO (sp gv se : Nat → Int32) (Z : Z11) (L K : Int32) (B : Bool) (N : Int32) : Bool × Z11 :=
  f_X5_doesOrder Z.1 sp Z.2.1 Z.2.2.1 Z.2.2.2.1 Z.2.2.2.2.1 Z.2.2.2.2.2.1 Z.2.2.2.2.2.2.1 gv se Z.2.2.2.2.2.2.2.1 Z.2.2.2.2.2.2.2.2.1 Z.2.2.2.2.2.2.2.2.2.1 Z.2.2.2.2.2.2.2.2.2.2 L K B N
section O44
variable {codes : Nat → Int32} {len i : Nat} {sp gv se : Nat → Int32} {n : Int32} {Z : Z11} {s : S5}
theorem o44_no (h : f_X3_endsOrderBehind codes len (nI i) = false) : L_X5_obey_44 sp gv se codes len i (mk44 1 n Z s) = .inl (mk44 1 n Z (f5 s (f_X3_codeAt codes len (nI i))).2) := by
  unfold L_X5_obey_44
  rw [h]
  rfl
theorem o44_do (h : f_X3_endsOrderBehind codes len (nI i) = true) {L K N : Int32} {B : Bool} {D : Nat} (e : (f5 s (f_X3_codeAt codes len (nI i))).2 = (D, L, K, B, N)) : L_X5_obey_44 sp gv se codes len i (mk44 1 n Z s) = .inl (mk44 (bI (doO sp gv se Z L K B N).1) (n + bI (if (doO sp gv se Z L K B N).1 = true then true else false)) (doO sp gv se Z L K B N).2 (D, L, K, B, N)) := by
  rw [← e]
  have eL : (f5 s (f_X3_codeAt codes len (nI i))).2.2.1 = L := by rw [e]
  have eK : (f5 s (f_X3_codeAt codes len (nI i))).2.2.2.1 = K := by rw [e]
  have eB : (f5 s (f_X3_codeAt codes len (nI i))).2.2.2.2.1 = B := by rw [e]
  have eN : (f5 s (f_X3_codeAt codes len (nI i))).2.2.2.2.2 = N := by rw [e]
  rw [← eL, ← eK, ← eB, ← eN]
  unfold L_X5_obey_44
  rw [h]
  rfl
theorem o44_0 (q : Int32) : L_X5_obey_44 sp gv se codes len i (mk44 0 q Z s) = .inr (mk44 0 q Z s) := rfl
end O44
section ENDS
variable {t codes : Nat → Int32} {len : Nat}
theorem ends_no (hs : Same codes t len) (hl : len ≤ 60) {i : Nat} (h : i + 1 < len) (h2 : ¬ t (i + 1) = 59) : f_X3_endsOrderBehind codes len (nI i) = false := by
  unfold f_X3_endsOrderBehind
  rw [nI_1, if_neg (nI_ge h (by omega)), codeAt_eq hs hl h, if_neg h2]
theorem ends_last (hl : len ≤ 60) {i : Nat} (h : len ≤ i + 1) (hi : i < 60) : f_X3_endsOrderBehind codes len (nI i) = true := by
  unfold f_X3_endsOrderBehind
  rw [nI_1, if_pos (nI_le h (by omega))]
theorem ends_semi (hs : Same codes t len) (hl : len ≤ 60) {i : Nat} (h : i + 1 < len) (h2 : t (i + 1) = 59) : f_X3_endsOrderBehind codes len (nI i) = true := by
  unfold f_X3_endsOrderBehind
  rw [nI_1, if_neg (nI_ge h (by omega)), codeAt_eq hs hl h, if_pos h2]
end ENDS
