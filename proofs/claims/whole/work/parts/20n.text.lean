/-! the text: the reader, character by character -/
abbrev S5 : Type := Nat × Int32 × Int32 × Bool × Int32
def f5 (s : S5) (ch : Int32) : Bool × S5 := f_X3_takes s.1 s.2.1 s.2.2.1 s.2.2.2.1 s.2.2.2.2 ch
/-- n characters from place a on are taken -/
def Tk (t : Nat → Int32) : Nat → Nat → S5 → S5 → Prop
  | _, 0, s, s' => s = s'
  | a, n + 1, s, s' => (f5 s (t a)).1 = true ∧ Tk t (a + 1) n (f5 s (t a)).2 s'
theorem Tk.add {t : Nat → Int32} {m : Nat} {s' s'' : S5} : ∀ {n a : Nat} {s : S5}, Tk t a n s s' → Tk t (a + n) m s' s'' → Tk t a (n + m) s s''
  | 0, a, s, h1, h2 => by
    have h1 : s = s' := h1
    rw [Nat.zero_add, h1]
    exact h2
  | n + 1, a, s, h1, h2 => by
    rw [show n + 1 + m = n + m + 1 by omega]
    refine ⟨h1.1, h1.2.add ?_⟩
    rw [show a + 1 + n = a + (n + 1) by omega]
    exact h2
theorem Tk.one {t : Nat → Int32} {a : Nat} {s s' : S5} (h : f5 s (t a) = (true, s')) : Tk t a 1 s s' := ⟨by rw [h], by rw [h]; rfl⟩
section STEPS
variable {L K N : Int32} {B : Bool} {ch : Int32}
def isL (ch : Int32) : Bool := (if ch = (107 : Int32) then true else (if ch = (98 : Int32) then true else (if ch = (119 : Int32) then true else (if ch = (116 : Int32) then true else false))))
theorem f5_0 (h : isL ch = true) : f5 (0, L, K, B, N) ch = (true, (if ch = (116 : Int32) then 4 else 1), ch, K, B, N) := by
  show f_X3_takes 0 L K B N ch = _
  unfold f_X3_takes f_X3_takesLetter
  unfold isL at h
  rw [if_pos (show mapI 0 = 1 from rfl)]
  by_cases c1 : ch = 107
  · rw [if_pos c1]
  · rw [if_neg c1] at h ⊢
    by_cases c2 : ch = 98
    · rw [if_pos c2]
    · rw [if_neg c2] at h ⊢
      by_cases c3 : ch = 119
      · rw [if_pos c3]
      · rw [if_neg c3] at h ⊢
        by_cases c4 : ch = 116
        · rw [if_pos c4]
        · rw [if_neg c4] at h
          cases h
theorem f5_0n (h : isL ch = false) : (f5 (0, L, K, B, N) ch).1 = false := by
  show (f_X3_takes 0 L K B N ch).1 = false
  unfold f_X3_takes f_X3_takesLetter
  unfold isL at h
  rw [if_pos (show mapI 0 = 1 from rfl)]
  by_cases c1 : ch = 107
  · rw [if_pos c1] at h; cases h
  · rw [if_neg c1] at h ⊢
    by_cases c2 : ch = 98
    · rw [if_pos c2] at h; cases h
    · rw [if_neg c2] at h ⊢
      by_cases c3 : ch = 119
      · rw [if_pos c3] at h; cases h
      · rw [if_neg c3] at h ⊢
        by_cases c4 : ch = 116
        · rw [if_pos c4] at h; cases h
        · rw [if_neg c4]
theorem f5_1 (h : f_X5_isClock (ch - (48 : Int32)) = true) : f5 (1, L, K, B, N) ch = (true, (if L = (107 : Int32) then 2 else (if L = (98 : Int32) then 3 else 6)), L, ch - (48 : Int32), B, N) := by
  show f_X3_takes 1 L K B N ch = _
  unfold f_X3_takes f_X3_takesClock
  rw [if_neg (show ¬ mapI 1 = 1 by decide), if_pos (show mapI 1 = 2 from rfl), if_pos h]
theorem f5_1n (h : ¬ f_X5_isClock (ch - (48 : Int32)) = true) : (f5 (1, L, K, B, N) ch).1 = false := by
  show (f_X3_takes 1 L K B N ch).1 = false
  unfold f_X3_takes f_X3_takesClock
  rw [if_neg (show ¬ mapI 1 = 1 by decide), if_pos (show mapI 1 = 2 from rfl), if_neg h]
theorem f5_2p (h : ch = (43 : Int32)) : f5 (2, L, K, B, N) ch = (true, 4, L, K, false, N) := by
  show f_X3_takes 2 L K B N ch = _
  unfold f_X3_takes f_X3_takesSign
  rw [if_neg (show ¬ mapI 2 = 1 by decide), if_neg (show ¬ mapI 2 = 2 by decide), if_pos (show mapI 2 = 3 from rfl), if_pos h, if_neg (by rw [h]; decide)]
theorem f5_2m (h : ch = (45 : Int32)) : f5 (2, L, K, B, N) ch = (true, 4, L, K, true, N) := by
  show f_X3_takes 2 L K B N ch = _
  unfold f_X3_takes f_X3_takesSign
  rw [if_neg (show ¬ mapI 2 = 1 by decide), if_neg (show ¬ mapI 2 = 2 by decide), if_pos (show mapI 2 = 3 from rfl), if_neg (by rw [h]; decide), if_pos h, if_pos h]
theorem f5_2n (h1 : ¬ ch = (43 : Int32)) (h2 : ¬ ch = (45 : Int32)) : (f5 (2, L, K, B, N) ch).1 = false := by
  show (f_X3_takes 2 L K B N ch).1 = false
  unfold f_X3_takes f_X3_takesSign
  rw [if_neg (show ¬ mapI 2 = 1 by decide), if_neg (show ¬ mapI 2 = 2 by decide), if_pos (show mapI 2 = 3 from rfl), if_neg h1, if_neg h2]
theorem f5_3 (h : f_X5_isBeam (ch - (48 : Int32)) = true) : f5 (3, L, K, B, N) ch = (true, 6, L, K, B, ch - (48 : Int32)) := by
  show f_X3_takes 3 L K B N ch = _
  unfold f_X3_takes f_X3_takesBeam
  rw [if_neg (show ¬ mapI 3 = 1 by decide), if_neg (show ¬ mapI 3 = 2 by decide), if_neg (show ¬ mapI 3 = 3 by decide), if_pos (show mapI 3 = 4 from rfl), if_pos h]
theorem f5_3n (h : ¬ f_X5_isBeam (ch - (48 : Int32)) = true) : (f5 (3, L, K, B, N) ch).1 = false := by
  show (f_X3_takes 3 L K B N ch).1 = false
  unfold f_X3_takes f_X3_takesBeam
  rw [if_neg (show ¬ mapI 3 = 1 by decide), if_neg (show ¬ mapI 3 = 2 by decide), if_neg (show ¬ mapI 3 = 3 by decide), if_pos (show mapI 3 = 4 from rfl), if_neg h]
theorem f5_4 (h1 : ¬ ch < (49 : Int32)) (h2 : ch ≤ (57 : Int32)) : f5 (4, L, K, B, N) ch = (true, 5, L, K, B, ch - (48 : Int32)) := by
  show f_X3_takes 4 L K B N ch = _
  unfold f_X3_takes f_X3_takesFirstDigit
  rw [if_neg (show ¬ mapI 4 = 1 by decide), if_neg (show ¬ mapI 4 = 2 by decide), if_neg (show ¬ mapI 4 = 3 by decide), if_neg (show ¬ mapI 4 = 4 by decide), if_pos (show mapI 4 = 5 from rfl), if_neg h1, if_pos h2]
theorem f5_4n (h : ch < (49 : Int32) ∨ ¬ ch ≤ (57 : Int32)) : (f5 (4, L, K, B, N) ch).1 = false := by
  show (f_X3_takes 4 L K B N ch).1 = false
  unfold f_X3_takes f_X3_takesFirstDigit
  rw [if_neg (show ¬ mapI 4 = 1 by decide), if_neg (show ¬ mapI 4 = 2 by decide), if_neg (show ¬ mapI 4 = 3 by decide), if_neg (show ¬ mapI 4 = 4 by decide), if_pos (show mapI 4 = 5 from rfl)]
  by_cases c : ch < 49
  · rw [if_pos c]
  · rw [if_neg c, if_neg (h.resolve_left c)]
theorem f5_5 : f5 (5, L, K, B, N) ch = ((if ch = (59 : Int32) then (f_X3_takesEnd 5 ch).1 else (f_X3_takesNextDigit L N ch).1), (if ch = (59 : Int32) then (f_X3_takesEnd 5 ch).2 else 5), L, K, B, (if ch = (59 : Int32) then N else (f_X3_takesNextDigit L N ch).2)) := by
  show f_X3_takes 5 L K B N ch = _
  unfold f_X3_takes
  rw [if_neg (show ¬ mapI 5 = 1 by decide), if_neg (show ¬ mapI 5 = 2 by decide), if_neg (show ¬ mapI 5 = 3 by decide), if_neg (show ¬ mapI 5 = 4 by decide), if_neg (show ¬ mapI 5 = 5 by decide), if_pos (show mapI 5 = 6 from rfl)]
theorem f5_5e : f5 (5, L, K, B, N) (59 : Int32) = (true, 0, L, K, B, N) := by
  rw [f5_5, if_pos rfl, if_pos rfl, if_pos rfl]
  rfl
theorem f5_5d (h1 : ¬ ch < (48 : Int32)) (h2 : ch ≤ (57 : Int32)) (h3 : N * (10 : Int32) + ch - (48 : Int32) ≤ (if L = (107 : Int32) then (500 : Int32) else (99 : Int32))) : f5 (5, L, K, B, N) ch = (true, 5, L, K, B, N * (10 : Int32) + ch - (48 : Int32)) := by
  have c : ¬ ch = (59 : Int32) := fun q => by rw [q] at h2; exact absurd h2 (by decide)
  rw [f5_5, if_neg c, if_neg c, if_neg c]
  unfold f_X3_takesNextDigit
  rw [if_neg h1, if_pos h2, if_pos h3]
theorem f5_5n (c : ¬ ch = (59 : Int32)) (h : (ch < (48 : Int32) ∨ ¬ ch ≤ (57 : Int32)) ∨ ¬ N * (10 : Int32) + ch - (48 : Int32) ≤ (if L = (107 : Int32) then (500 : Int32) else (99 : Int32))) : (f5 (5, L, K, B, N) ch).1 = false := by
  rw [f5_5, if_neg c, if_neg c, if_neg c]
  show (f_X3_takesNextDigit L N ch).1 = false
  unfold f_X3_takesNextDigit
  by_cases c1 : ch < 48
  · rw [if_pos c1]
  · rw [if_neg c1]
    by_cases c2 : ch ≤ 57
    · rw [if_pos c2]
      rcases h with h | h
      · exact absurd c2 (h.resolve_left c1)
      · rw [if_neg h]
    · rw [if_neg c2]
theorem f5_6e : f5 (6, L, K, B, N) (59 : Int32) = (true, 0, L, K, B, N) := by
  show f_X3_takes 6 L K B N (59 : Int32) = _
  unfold f_X3_takes f_X3_takesEnd
  rw [if_neg (show ¬ mapI 6 = 1 by decide), if_neg (show ¬ mapI 6 = 2 by decide), if_neg (show ¬ mapI 6 = 3 by decide), if_neg (show ¬ mapI 6 = 4 by decide), if_neg (show ¬ mapI 6 = 5 by decide), if_neg (show ¬ mapI 6 = 6 by decide), if_pos rfl]
theorem f5_6n (c : ¬ ch = (59 : Int32)) : (f5 (6, L, K, B, N) ch).1 = false := by
  show (f_X3_takes 6 L K B N ch).1 = false
  unfold f_X3_takes f_X3_takesEnd
  rw [if_neg (show ¬ mapI 6 = 1 by decide), if_neg (show ¬ mapI 6 = 2 by decide), if_neg (show ¬ mapI 6 = 3 by decide), if_neg (show ¬ mapI 6 = 4 by decide), if_neg (show ¬ mapI 6 = 5 by decide), if_neg (show ¬ mapI 6 = 6 by decide), if_neg c]
end STEPS
section READ
variable {t : Nat → Int32} {len : Nat}
theorem take_t (at_ : Nat) (b : Bool) : f_X6_take at_ true b = (at_ + bN b, b) := by cases b <;> rfl
theorem take_f (at_ : Nat) (b : Bool) : f_X6_take at_ false b = (at_, false) := by cases b <;> rfl
theorem here_lt {p : Nat} (h : p < len) : f_X6_here len p t = t p := by
  unfold f_X6_here
  rw [if_neg (by omega)]
theorem here_ge {p : Nat} (h : len ≤ p) : f_X6_here len p t = -1 := by
  unfold f_X6_here
  rw [if_pos h]
/-- codes of characters -/
def Chs (t : Nat → Int32) (len : Nat) : Prop := ∀ j, j < len → 33 ≤ (t j).toInt ∧ (t j).toInt ≤ 126
theorem here_rng (hc : Chs t len) (p : Nat) : -1 ≤ (f_X6_here len p t).toInt ∧ (f_X6_here len p t).toInt ≤ 126 := by
  by_cases c : p < len
  · rw [here_lt c]
    have := hc p c
    omega
  · rw [here_ge (by omega)]
    decide
theorem here48 (hc : Chs t len) (p : Nat) : (f_X6_here len p t - (48 : Int32)).toInt = (f_X6_here len p t).toInt - 48 := by
  have := here_rng hc p
  have z : (48 : Int32).toInt = 48 := rfl
  rw [sub_toInt (by omega) (by omega), z]
theorem dg_eq (p : Nat) (lo hi : Int32) : f_X6_digit len p true t lo hi = if f_X6_in ((f_X6_here len p t - (48 : Int32)).toInt64) lo.toInt64 hi.toInt64 = true then (f_X6_here len p t - (48 : Int32), p + 1, true) else (lo, p, false) := by
  unfold f_X6_digit
  rw [take_t]
  cases c : f_X6_in ((f_X6_here len p t - (48 : Int32)).toInt64) lo.toInt64 hi.toInt64
  · rfl
  · rfl
theorem dg_f (p : Nat) (lo hi : Int32) : f_X6_digit len p false t lo hi = (lo, p, false) := by
  unfold f_X6_digit
  rw [take_f]
  rfl
theorem in_lit (v lo hi : Int32) : f_X6_in v.toInt64 lo.toInt64 hi.toInt64 = true ↔ lo.toInt ≤ v.toInt ∧ v.toInt ≤ hi.toInt := by
  rw [in_iff, Int32.toInt_toInt64, Int32.toInt_toInt64]
/-- the digits of a number, behind its first -/
theorem num_run (hc : Chs t len) (L K : Int32) (B : Bool) (a0 : Nat) (gd : Bool) (hg : (f_X6_digit len a0 gd t (1 : Int32) (9 : Int32)).2.2 = true) : ∀ (n k : Nat) (v : Int32) (p : Nat), p ≤ len → len - p < n → 1 ≤ v.toInt → v.toInt ≤ 500 → ∃ m v', unx (itx (L_X6_number_8 len a0 gd t (if L = (107 : Int32) then (500 : Int32) else (99 : Int32))) k n (v, p)) = (v', p + m) ∧ Tk t p m (5, L, K, B, v) (5, L, K, B, v') ∧ p + m ≤ len ∧ (∀ i, i < m → ¬ t (p + i) = 59) ∧ (p + m < len → ¬ t (p + m) = 59 → (f5 (5, L, K, B, v') (t (p + m))).1 = false) ∧ 1 ≤ v'.toInt ∧ v'.toInt ≤ 500 := by
  intro n
  induction n with
  | zero => intro k v p h1 h2; omega
  | succ n ih =>
    intro k v p h1 h2 h3 h4
    have z48 : (48 : Int32).toInt = 48 := rfl
    have z57 : (57 : Int32).toInt = 57 := rfl
    have z10 : (10 : Int32).toInt = 10 := rfl
    have hin : f_X6_in ((f_X6_here len p t).toInt64) (48 : Int64) (57 : Int64) = true ↔ 48 ≤ (f_X6_here len p t).toInt ∧ (f_X6_here len p t).toInt ≤ 57 := in_iff _ _ _
    have stop : ∀ (hL : L_X6_number_8 len a0 gd t (if L = (107 : Int32) then (500 : Int32) else (99 : Int32)) k (v, p) = .inr (v, p)) (hs : p < len → ¬ t p = 59 → (f5 (5, L, K, B, v) (t p)).1 = false), ∃ m v', unx (itx (L_X6_number_8 len a0 gd t (if L = (107 : Int32) then (500 : Int32) else (99 : Int32))) k (n + 1) (v, p)) = (v', p + m) ∧ Tk t p m (5, L, K, B, v) (5, L, K, B, v') ∧ p + m ≤ len ∧ (∀ i, i < m → ¬ t (p + i) = 59) ∧ (p + m < len → ¬ t (p + m) = 59 → (f5 (5, L, K, B, v') (t (p + m))).1 = false) ∧ 1 ≤ v'.toInt ∧ v'.toInt ≤ 500 := fun hL hs =>
      ⟨0, v, by rw [itx_r _ _ _ _ _ hL]; rfl, rfl, h1, fun i hi => by omega, hs, h3, h4⟩
    by_cases cd : f_X6_in ((f_X6_here len p t).toInt64) (48 : Int64) (57 : Int64) = true
    · have hd := hin.mp cd
      have hp : p < len := by
        by_cases q : p < len
        · exact q
        · rw [here_ge (by omega)] at hd
          have z1 : (-1 : Int32).toInt = -1 := rfl
          omega
      rw [here_lt hp] at hd
      have d1 : ¬ t p < (48 : Int32) := fun q => by have := Int32.lt_iff_toInt_lt.mp q; omega
      have d2 : t p ≤ (57 : Int32) := Int32.le_iff_toInt_le.mpr (by omega)
      have ec : (10 : Int32) * v + f_X6_here len p t - (48 : Int32) = v * (10 : Int32) + t p - (48 : Int32) := by rw [here_lt hp, Int32.mul_comm]
      have em : (v * (10 : Int32)).toInt = v.toInt * 10 := by
        rw [Int32.toInt_mul, z10]
        exact Int.bmod_eq_of_le (by omega) (by omega)
      have ev : (v * (10 : Int32) + t p - (48 : Int32)).toInt = v.toInt * 10 + (t p).toInt - 48 := by
        have e1 : (v * (10 : Int32) + t p).toInt = v.toInt * 10 + (t p).toInt := by rw [add_toInt (by omega) (by omega), em]
        rw [sub_toInt (by omega) (by omega), e1, z48]
      by_cases cm : (if L = (107 : Int32) then (500 : Int32) else (99 : Int32)) < v * (10 : Int32) + t p - (48 : Int32)
      · refine stop ?_ (fun _ q => f5_5n q (Or.inr (fun q2 => by have := Int32.le_iff_toInt_le.mp q2; have := Int32.lt_iff_toInt_lt.mp cm; omega)))
        unfold L_X6_number_8
        rw [if_pos hg, if_pos cd]
        show (if (if L = (107 : Int32) then (500 : Int32) else (99 : Int32)) < (10 : Int32) * v + f_X6_here len p t - (48 : Int32) then _ else _) = _
        rw [ec, if_pos cm]
      · have hle : v * (10 : Int32) + t p - (48 : Int32) ≤ (if L = (107 : Int32) then (500 : Int32) else (99 : Int32)) := Int32.le_iff_toInt_le.mpr (by
          have : ¬ (if L = (107 : Int32) then (500 : Int32) else (99 : Int32)).toInt < (v * (10 : Int32) + t p - (48 : Int32)).toInt := fun q => cm (Int32.lt_iff_toInt_lt.mpr q)
          omega)
        have hb : (v * (10 : Int32) + t p - (48 : Int32)).toInt ≤ 500 := by
          have h5 := Int32.le_iff_toInt_le.mp hle
          have z5 : (500 : Int32).toInt = 500 := rfl
          have z9 : (99 : Int32).toInt = 99 := rfl
          by_cases cl : L = (107 : Int32)
          · rw [if_pos cl] at h5; omega
          · rw [if_neg cl] at h5; omega
        obtain ⟨m, v', g1, g2, g3, g4, g5, g6, g7⟩ := ih (k + 1) (v * (10 : Int32) + t p - (48 : Int32)) (p + 1) (by omega) (by omega) (by omega) hb
        refine ⟨m + 1, v', ?_, ?_, by omega, fun i hi => ?_, ?_, g6, g7⟩
        · rw [itx_l (s' := (v * (10 : Int32) + t p - (48 : Int32), p + 1)), g1]
          · rw [show p + 1 + m = p + (m + 1) by omega]
          · unfold L_X6_number_8
            rw [if_pos hg, if_pos cd]
            show (if (if L = (107 : Int32) then (500 : Int32) else (99 : Int32)) < (10 : Int32) * v + f_X6_here len p t - (48 : Int32) then _ else Sum.inl ((10 : Int32) * v + f_X6_here len p t - (48 : Int32), p + 1)) = _
            rw [ec, if_neg cm]
        · have e5 := f5_5d (L := L) (K := K) (B := B) (N := v) d1 d2 hle
          exact ⟨by rw [e5], by rw [e5]; exact g2⟩
        · by_cases ci : i = 0
          · subst ci
            rw [Nat.add_zero]
            intro q
            rw [q] at hd
            have z59 : (59 : Int32).toInt = 59 := rfl
            omega
          · have := g4 (i - 1) (by omega)
            rw [show p + 1 + (i - 1) = p + i by omega] at this
            exact this
        · rw [show p + (m + 1) = p + 1 + m by omega]
          exact g5
    · refine stop ?_ (fun hp q => f5_5n q (Or.inl ?_))
      · unfold L_X6_number_8
        rw [if_pos hg, if_neg cd]
      · have hd : ¬ (48 ≤ (f_X6_here len p t).toInt ∧ (f_X6_here len p t).toInt ≤ 57) := fun q => cd (hin.mpr q)
        rw [here_lt hp] at hd
        by_cases c1 : t p < (48 : Int32)
        · exact Or.inl c1
        · right
          intro c2
          have := Int32.le_iff_toInt_le.mp c2
          have : ¬ (t p).toInt < (48 : Int32).toInt := fun q => c1 (Int32.lt_iff_toInt_lt.mpr q)
          omega
/-- a number: none, or all its digits -/
theorem num_eq (hc : Chs t len) (hl : len ≤ 60) (L K N : Int32) (B : Bool) (p : Nat) (hp : p ≤ len) :
    (f_X6_number len p true t (if L = (107 : Int32) then (500 : Int32) else (99 : Int32)) = (1, p, false) ∧ (p < len → (f5 (4, L, K, B, N) (t p)).1 = false)) ∨
    (∃ m v, f_X6_number len p true t (if L = (107 : Int32) then (500 : Int32) else (99 : Int32)) = (v, p + m, true) ∧ Tk t p m (4, L, K, B, N) (5, L, K, B, v) ∧ 1 ≤ m ∧ p + m ≤ len ∧ (∀ i, i < m → ¬ t (p + i) = 59) ∧ (p + m < len → ¬ t (p + m) = 59 → (f5 (5, L, K, B, v) (t (p + m))).1 = false) ∧ 1 ≤ v.toInt ∧ v.toInt ≤ 500) := by
  have z1 : (1 : Int32).toInt = 1 := rfl
  have z9 : (9 : Int32).toInt = 9 := rfl
  have z49 : (49 : Int32).toInt = 49 := rfl
  have z57 : (57 : Int32).toInt = 57 := rfl
  have hd := in_lit (f_X6_here len p t - (48 : Int32)) (1 : Int32) (9 : Int32)
  rw [here48 hc p, z1, z9] at hd
  by_cases cd : f_X6_in ((f_X6_here len p t - (48 : Int32)).toInt64) (1 : Int32).toInt64 (9 : Int32).toInt64 = true
  · right
    have hd := hd.mp cd
    have hlt : p < len := by
      by_cases q : p < len
      · exact q
      · rw [here_ge (by omega)] at hd
        have zm : (-1 : Int32).toInt = -1 := rfl
        omega
    have eD : f_X6_digit len p true t (1 : Int32) (9 : Int32) = (t p - (48 : Int32), p + 1, true) := by rw [dg_eq, if_pos cd, here_lt hlt]
    have ev := here48 hc p
    rw [here_lt hlt] at hd ev
    obtain ⟨m, v', g1, g2, g3, g4, g5, g6, g7⟩ := num_run hc L K B p true (by rw [eD]) 63 0 (t p - (48 : Int32)) (p + 1) (by omega) (by omega) (by omega) (by omega)
    refine ⟨m + 1, v', ?_, ?_, by omega, by omega, fun i hi => ?_, ?_, g6, g7⟩
    · unfold f_X6_number
      rw [eD]
      dsimp only
      rw [g1, show p + 1 + m = p + (m + 1) by omega]
    · have e4 := f5_4 (L := L) (K := K) (B := B) (N := N) (ch := t p) (fun q => by have := Int32.lt_iff_toInt_lt.mp q; omega) (Int32.le_iff_toInt_le.mpr (by omega))
      exact ⟨by rw [e4], by rw [e4]; exact g2⟩
    · by_cases ci : i = 0
      · subst ci
        rw [Nat.add_zero]
        intro q
        rw [q] at hd
        have z59 : (59 : Int32).toInt = 59 := rfl
        omega
      · have := g4 (i - 1) (by omega)
        rw [show p + 1 + (i - 1) = p + i by omega] at this
        exact this
    · rw [show p + (m + 1) = p + 1 + m by omega]
      exact g5
  · left
    have eD : f_X6_digit len p true t (1 : Int32) (9 : Int32) = (1, p, false) := by rw [dg_eq, if_neg cd]
    refine ⟨?_, fun hlt => f5_4n ?_⟩
    · unfold f_X6_number
      rw [eD]
      dsimp only
      rw [itx_r (r := ((1 : Int32), p))]
      · rfl
      · unfold L_X6_number_8
        rw [eD, if_neg Bool.false_ne_true]
    · have hd : ¬ (1 ≤ (f_X6_here len p t).toInt - 48 ∧ (f_X6_here len p t).toInt - 48 ≤ 9) := fun q => cd (hd.mpr q)
      rw [here_lt hlt] at hd
      by_cases c1 : t p < (49 : Int32)
      · exact Or.inl c1
      · right
        intro c2
        have := Int32.le_iff_toInt_le.mp c2
        have : ¬ (t p).toInt < (49 : Int32).toInt := fun q => c1 (Int32.lt_iff_toInt_lt.mpr q)
        omega
end READ
