/-! the whole text, read by both -/
section RD
variable {t codes : Nat → Int32} {len : Nat}
/-- both hold the same text -/
def Same (codes t : Nat → Int32) (len : Nat) : Prop := ∀ j, j < len → codes j = t j
theorem codeAt_eq (hs : Same codes t len) (hl : len ≤ 60) {j : Nat} (hj : j < len) : f_X3_codeAt codes len (nI j) = t j := by
  unfold f_X3_codeAt
  rw [if_neg (nI_pos (by omega)), if_neg (nI_ge hj (by omega)), nI_clamp (by omega), hs j hj]
theorem l6_ok (hs : Same codes t len) (hl : len ≤ 60) {j : Nat} (hj : j < len) {s s' : S5} (h : f5 s (t j) = (true, s')) : L_X3_indexOfError_6 codes len j s = .inl s' := by
  have h2 : f5 s (f_X3_codeAt codes len (nI j)) = (true, s') := by rw [codeAt_eq hs hl hj]; exact h
  unfold f5 at h2
  unfold L_X3_indexOfError_6
  rw [h2]
  rfl
theorem l6_no (hs : Same codes t len) (hl : len ≤ 60) {j : Nat} (hj : j < len) {s : S5} (h : (f5 s (t j)).1 = false) : ∃ st, L_X3_indexOfError_6 codes len j s = .inr (nI j, st) := by
  have h2 : ∃ s', f5 s (f_X3_codeAt codes len (nI j)) = (false, s') := ⟨(f5 s (t j)).2, by rw [codeAt_eq hs hl hj, ← h]⟩
  obtain ⟨s', h2⟩ := h2
  unfold f5 at h2
  unfold L_X3_indexOfError_6
  rw [h2]
  exact ⟨_, rfl⟩
theorem tk_run (hs : Same codes t len) (hl : len ≤ 60) {s' : S5} (m : Nat) : ∀ (n a : Nat) (s : S5), Tk t a n s s' → a + n ≤ len → itx (L_X3_indexOfError_6 codes len) a (n + m) s = itx (L_X3_indexOfError_6 codes len) (a + n) m s'
  | 0, a, s, h, _ => by
    have h : s = s' := h
    rw [h, Nat.zero_add, Nat.add_zero]
  | n + 1, a, s, h, hle => by
    rw [show n + 1 + m = n + m + 1 by omega, itx_l _ _ _ _ _ (l6_ok hs hl (by omega) (s' := (f5 s (t a)).2) (by rw [← h.1])), tk_run hs hl m n (a + 1) _ h.2 (by omega), show a + 1 + n = a + (n + 1) by omega]
/-- the class's reader from place a on -/
def run6 (codes : Nat → Int32) (len a : Nat) (s : S5) : S5 ⊕ (Int32 × S5) := itx (L_X3_indexOfError_6 codes len) a (len - a) s
theorem run6_tk (hs : Same codes t len) (hl : len ≤ 60) {n a : Nat} {s s' : S5} (h : Tk t a n s s') (hle : a + n ≤ len) : run6 codes len a s = run6 codes len (a + n) s' := by
  unfold run6
  have := tk_run hs hl (len - (a + n)) n a s h hle
  rw [show n + (len - (a + n)) = len - a by omega] at this
  exact this
theorem run6_end (s : S5) : run6 codes len len s = .inl s := by
  unfold run6
  rw [Nat.sub_self, itx_0]
theorem run6_no (hs : Same codes t len) (hl : len ≤ 60) {a : Nat} (ha : a < len) {s : S5} (h : (f5 s (t a)).1 = false) : ∃ st, run6 codes len a s = .inr (nI a, st) := by
  obtain ⟨st, e⟩ := l6_no hs hl ha h
  refine ⟨st, ?_⟩
  unfold run6
  rw [show len - a = len - a - 1 + 1 by omega]
  exact itx_r _ _ _ _ _ e
theorem done24 (rn : Bool) (n k : Nat) (s : Bool × Bool × Nat × Bool × Int32 × (Nat → Int32) × (Nat → Int32)) (h : (s.2.2.2.1 && (s.2.1 && s.1)) = false) : unx (itx (L_X6_read_24 len t rn) k n s) = s := by
  cases n with
  | zero => rw [itx_0]; rfl
  | succ n =>
    have e : L_X6_read_24 len t rn k s = .inr s := by
      unfold L_X6_read_24
      cases c1 : s.2.2.2.1
      · rw [if_neg Bool.false_ne_true]
      · cases c2 : s.2.1
        · rw [if_pos rfl, if_neg Bool.false_ne_true]
        · cases c3 : s.1
          · rw [if_pos rfl, if_pos rfl, if_neg Bool.false_ne_true]
          · rw [c1, c2, c3] at h
            cases h
    rw [itx_r _ _ _ _ _ e]
    rfl
theorem l24_eq (rn : Bool) (k a : Nat) (did : Int32) (now pulls : Nat → Int32) : L_X6_read_24 len t rn k (true, true, a, true, did, now, pulls) = C_X6_read_82 len t rn (true, true, a, true, did, now, pulls) (f_X6_take a true (isL (f_X6_here len a t))).1 (f_X6_take a true (isL (f_X6_here len a t))).2 := rfl
theorem l24_no (rn : Bool) (k a : Nat) (did : Int32) (now pulls : Nat → Int32) (h : isL (f_X6_here len a t) = false) : ∃ more, L_X6_read_24 len t rn k (true, true, a, true, did, now, pulls) = .inl (false, more, a, false, did + bI false, now, pulls) := by
  rw [l24_eq, h, take_t]
  exact ⟨_, rfl⟩
theorem l24_ord (rn : Bool) (k a : Nat) (did : Int32) (now pulls : Nat → Int32) (h : isL (f_X6_here len a t) = true) {ret : Bool} {q : Nat} {g : Bool} {now' pulls' : Nat → Int32} (hO : f_X6_order len (a + 1) true rn now pulls t (f_X6_here len a t) = (ret, q, g, now', pulls')) : L_X6_read_24 len t rn k (true, true, a, true, did, now, pulls) = .inl (ret, (if len ≤ q then false else true), (if g = true then (if (if len ≤ q then false else true) = true then (if ret = true then (f_X6_take q g (if (f_X6_here len q t) = (59 : Int32) then true else false)).1 else q) else q) else q), (if g = true then (if (if len ≤ q then false else true) = true then (if ret = true then (f_X6_take q g (if (f_X6_here len q t) = (59 : Int32) then true else false)).2 else g) else g) else g), did + bI ret, now', pulls') := by
  rw [l24_eq, h, take_t]
  have hb : a + bN true = a + 1 := rfl
  dsimp only
  rw [hb]
  unfold C_X6_read_82
  dsimp only
  rw [hO]
  cases ret <;> rfl
/-- the letter at a place: none, or one of the text's -/
theorem isL_lt {a : Nat} (h : isL (f_X6_here len a t) = true) : a < len := by
  by_cases c : a < len
  · exact c
  · rw [here_ge (by omega)] at h
    exact absurd h (by decide)
/-- what the reader says, and what the class's does -/
def RRes (codes : Nat → Int32) (len a : Nat) (s : S5) (good : Bool) (at_ : Nat) : Prop :=
  (good = true ∧ ∃ s', run6 codes len a s = .inl s' ∧ (s'.1 = 5 ∨ s'.1 = 6)) ∨
  (good = false ∧ ((at_ = len ∧ ∃ s', run6 codes len a s = .inl s' ∧ (¬ s'.1 = 5 ∧ ¬ s'.1 = 6)) ∨ (at_ < len ∧ ∃ st, run6 codes len a s = .inr (nI at_, st))))
theorem f5_end {D : Nat} (hD : D = 5 ∨ D = 6) (L K N : Int32) (B : Bool) {ch : Int32} (h : ch = 59) : f5 (D, L, K, B, N) ch = (true, 0, L, K, B, N) := by
  subst h
  rcases hD with e | e
  · subst e; exact f5_5e
  · subst e; exact f5_6e
theorem bad_res (hs : Same codes t len) (hl : len ≤ 60) {a n : Nat} {s s' : S5} (hT : Tk t a n s s') (hle : a + n ≤ len) (hd : ¬ s'.1 = 5 ∧ ¬ s'.1 = 6) (hf : a + n < len → (f5 s' (t (a + n))).1 = false) : RRes codes len a s false (a + n) := by
  right
  refine ⟨rfl, ?_⟩
  by_cases e : a + n = len
  · left
    refine ⟨e, s', ?_, hd⟩
    rw [run6_tk hs hl hT hle, e, run6_end]
  · right
    obtain ⟨st, h⟩ := run6_no hs hl (show a + n < len by omega) (hf (by omega))
    exact ⟨by omega, st, by rw [run6_tk hs hl hT hle]; exact h⟩
theorem read_all (hs : Same codes t len) (hc : Chs t len) (hl : len ≤ 60) : ∀ (n k a : Nat) (did : Int32) (now pulls : Nat → Int32) (L K N : Int32) (B : Bool), a ≤ len → len - a < n → (unx (itx (L_X6_read_24 len t false) k n (true, true, a, true, did, now, pulls))).2.2.2.2.2 = (now, pulls) ∧ RRes codes len a (0, L, K, B, N) (unx (itx (L_X6_read_24 len t false) k n (true, true, a, true, did, now, pulls))).2.2.2.1 (unx (itx (L_X6_read_24 len t false) k n (true, true, a, true, did, now, pulls))).2.2.1 := by
  intro n
  induction n with
  | zero => intro k a did now pulls L K N B h1 h2; omega
  | succ n ih =>
    intro k a did now pulls L K N B h1 h2
    by_cases cl : isL (f_X6_here len a t) = true
    · have ha := isL_lt cl
      have eh := here_lt (t := t) ha
      have cl2 : isL (t a) = true := by rw [← eh]; exact cl
      have e0 := f5_0 (L := L) (K := K) (B := B) (N := N) cl2
      rcases ord_eq hc hl cl2 (a + 1) (by omega) false now pulls K N B with ⟨m, s', hT, hle, hd, hf, hO⟩ | ⟨m, K', B', N', D, hT, hD, hm, hle, h59, hst, hO, hK, hN, hN2⟩
      · have hO2 : f_X6_order len (a + 1) true false now pulls t (f_X6_here len a t) = (false, a + 1 + m, false, now, pulls) := by rw [eh]; exact hO
        have el := l24_ord false k a did now pulls cl hO2
        rw [itx_l _ _ _ _ _ el, done24 _ _ _ _ rfl]
        refine ⟨rfl, ?_⟩
        have hT2 : Tk t a (1 + m) (0, L, K, B, N) s' := (Tk.one e0).add hT
        have := bad_res hs hl hT2 (by omega) hd (by rw [← Nat.add_assoc]; exact hf)
        rw [← Nat.add_assoc] at this
        exact this
      · have hO2 : f_X6_order len (a + 1) true false now pulls t (f_X6_here len a t) = (true, a + 1 + m, true, now, pulls) := by rw [eh, hO]; rfl
        have el := l24_ord false k a did now pulls cl hO2
        rw [if_pos rfl, if_pos rfl, if_pos rfl, if_pos rfl] at el
        have hT2 : Tk t a (1 + m) (0, L, K, B, N) (D, t a, K', B', N') := (Tk.one e0).add hT
        have er := run6_tk hs hl hT2 (by omega)
        rw [← Nat.add_assoc] at er
        by_cases ce : a + 1 + m = len
        · have c1 : len ≤ a + 1 + m := by omega
          rw [if_pos c1, if_neg Bool.false_ne_true, if_neg Bool.false_ne_true] at el
          rw [itx_l _ _ _ _ _ el, done24 _ _ _ _ rfl]
          refine ⟨rfl, Or.inl ⟨rfl, (D, t a, K', B', N'), ?_, hD⟩⟩
          rw [er, ce, run6_end]
        · have c1 : ¬ len ≤ a + 1 + m := by omega
          rw [if_neg c1, if_pos rfl, if_pos rfl, take_t] at el
          rw [here_lt (show a + 1 + m < len by omega)] at el
          by_cases c5 : t (a + 1 + m) = 59
          · rw [if_pos c5] at el
            rw [itx_l _ _ _ _ _ el]
            have := ih (k + 1) (a + 1 + m + 1) (did + bI true) now pulls (t a) K' N' B' (by omega) (by omega)
            refine ⟨this.1, ?_⟩
            have e6 := run6_tk hs hl (Tk.one (a := a + 1 + m) (f5_end hD (t a) K' N' B' c5)) (by omega)
            have g := this.2
            unfold RRes at g ⊢
            rw [er, e6]
            exact g
          · rw [if_neg c5] at el
            rw [itx_l _ _ _ _ _ el, done24 _ _ _ _ rfl]
            refine ⟨rfl, Or.inr ⟨rfl, Or.inr ⟨by show a + 1 + m < len; omega, ?_⟩⟩⟩
            obtain ⟨st, h⟩ := run6_no hs hl (show a + 1 + m < len by omega) (hst (by omega) c5)
            exact ⟨st, by rw [er]; exact h⟩
    · have cf : isL (f_X6_here len a t) = false := by
        cases q : isL (f_X6_here len a t)
        · rfl
        · exact absurd q cl
      obtain ⟨more, el⟩ := l24_no false k a did now pulls cf
      rw [itx_l _ _ _ _ _ el, done24 _ _ _ _ rfl]
      refine ⟨rfl, ?_⟩
      have := bad_res (n := 0) hs hl (show Tk t a 0 (0, L, K, B, N) (0, L, K, B, N) from rfl) (by omega) (show ¬ (0 : Nat) = 5 ∧ ¬ (0 : Nat) = 6 by decide) (fun ha => by
        rw [here_lt (by omega)] at cf
        exact f5_0n cf)
      exact this
/-- the reader from the start -/
theorem read_0 (hs : Same codes t len) (hc : Chs t len) (hl : len ≤ 60) (now pulls : Nat → Int32) (L K N : Int32) (B : Bool) : (f_X6_read len now pulls t false).2.2.2.2.2.1 = now ∧ (f_X6_read len now pulls t false).2.2.2.2.2.2 = pulls ∧ RRes codes len 0 (0, L, K, B, N) (f_X6_read len now pulls t false).1 (f_X6_read len now pulls t false).2.1 := by
  have h := read_all hs hc hl 62 0 0 0 now pulls L K N B (by omega) (by omega)
  exact ⟨congrArg Prod.fst h.1, congrArg Prod.snd h.1, h.2⟩
theorem nI_ne {a b : Nat} (ha : a < 2 ^ 31) (hb : b < 2 ^ 31) (h : ¬ a = b) : ¬ nI a = nI b := fun q => h ((nI_eq ha hb).mp q)
theorem r_error (hs : Same codes t len) (hc : Chs t len) (hl : len ≤ 60) (now pulls : Nat → Int32) (L K N : Int32) (B : Bool) : (f_X6_firstError len now pulls t).1 = (f_X5_firstError codes len L K B N).1 := by
  obtain ⟨-, -, h⟩ := read_0 hs hc hl now pulls L K N B
  show nI (if (f_X6_read len now pulls t false).1 = true then len else (f_X6_read len now pulls t false).2.1) = (f_X3_indexOfError codes len L K B N).1
  have ei : f_X3_indexOfError codes len L K B N = Sum.elim (fun (n6 : Nat × Int32 × Int32 × Bool × Int32) => ((nI len), n6.1, n6.2.1, n6.2.2.1, n6.2.2.2.1, n6.2.2.2.2)) (fun r => r) (run6 codes len 0 (0, L, K, B, N)) := rfl
  rcases h with ⟨e, s', h1, h2⟩ | ⟨e, ⟨e2, s', h1, h2⟩ | ⟨e2, st, h1⟩⟩
  · rw [e, ei, h1, if_pos rfl]
    rfl
  · rw [e, ei, h1, if_neg Bool.false_ne_true, e2]
    rfl
  · rw [e, ei, h1, if_neg Bool.false_ne_true]
    rfl
theorem r_complete (hs : Same codes t len) (hc : Chs t len) (hl : len ≤ 60) (now pulls : Nat → Int32) (L K N : Int32) (B : Bool) : (f_X6_read len now pulls t false).1 = (f_X3_isComplete codes len L K B N).1 ∧ ((f_X6_read len now pulls t false).1 = true → ∀ (L K N : Int32) (B : Bool), ∃ s', run6 codes len 0 (0, L, K, B, N) = .inl s' ∧ (s'.1 = 5 ∨ s'.1 = 6)) := by
  constructor
  · obtain ⟨-, -, h⟩ := read_0 hs hc hl now pulls L K N B
    unfold f_X3_isComplete
    show _ = (if (f_X3_indexOfError codes len L K B N).1 = nI len then (if (f_X3_indexOfError codes len L K B N).2.1 = 6 then true else (if (f_X3_indexOfError codes len L K B N).2.1 = 5 then true else false)) else false)
    have ei : f_X3_indexOfError codes len L K B N = Sum.elim (fun (n6 : Nat × Int32 × Int32 × Bool × Int32) => ((nI len), n6.1, n6.2.1, n6.2.2.1, n6.2.2.2.1, n6.2.2.2.2)) (fun r => r) (run6 codes len 0 (0, L, K, B, N)) := rfl
    rcases h with ⟨e, s', h1, h2⟩ | ⟨e, ⟨e2, s', h1, h2⟩ | ⟨e2, st, h1⟩⟩
    · rw [e, ei, h1]
      show true = (if nI len = nI len then (if s'.1 = 6 then true else (if s'.1 = 5 then true else false)) else false)
      rw [if_pos rfl]
      by_cases c6 : s'.1 = 6
      · rw [if_pos c6]
      · rw [if_neg c6, if_pos (h2.resolve_right c6)]
    · rw [e, ei, h1]
      show false = (if nI len = nI len then (if s'.1 = 6 then true else (if s'.1 = 5 then true else false)) else false)
      rw [if_pos rfl, if_neg h2.2, if_neg h2.1]
    · rw [e, ei, h1]
      show false = (if nI (f_X6_read len now pulls t false).2.1 = nI len then _ else false)
      rw [if_neg (nI_ne (by omega) (by omega) (by omega))]
  · intro hr L K N B
    obtain ⟨-, -, h⟩ := read_0 hs hc hl now pulls L K N B
    rcases h with ⟨e, s', h1, h2⟩ | ⟨e, h⟩
    · exact ⟨s', h1, h2⟩
    · rw [e] at hr
      cases hr
end RD
