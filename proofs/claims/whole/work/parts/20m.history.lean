/-! saved states -/
theorem Rel.cg {z : StT} {row row' : Nat → Int32} (h : Rel z row) (e : ∀ j, j < 129 → row' j = row j) : Rel z row' := by
  obtain ⟨h1, h2, h3, h4, h5, h6, h7⟩ := h
  refine ⟨fun k hk => ?_, fun j hj o ho hne => ?_, fun b hb => ?_, fun i hi => ?_, ?_, ?_, ?_⟩
  · obtain ⟨a0, a1, a2, a3, a4, a5, a6⟩ := h1 k hk
    exact ⟨(e _ (by omega)).trans a0, (e _ (by omega)).trans a1, (e _ (by omega)).trans a2, (e _ (by omega)).trans a3, (e _ (by omega)).trans a4, (e _ (by omega)).trans a5, (e _ (by omega)).trans a6⟩
  · have := near_126 hj ho hne
    exact (e _ (by omega)).trans (h2 j hj o ho hne)
  · exact (e _ (by omega)).trans (h3 b hb)
  · exact (e _ (by omega)).trans (h4 i hi)
  · exact (e _ (by omega)).trans h5
  · exact (e _ (by omega)).trans h6
  · exact (e _ (by omega)).trans h7
def RngT (z : StT) : Prop := Rng z.1 z.2.1 z.2.2.1 z.2.2.2.2.2.2.2.2.2.1
/-- the History and the book -/
def Hs (size : Nat) (cc : Nat → StT) (book : Nat → Int32) : Prop := size ≤ 6 ∧ ∀ i, i < size → Rel (cc i) (fun j => book (129 * i + j)) ∧ RngT (cc i)
theorem it_shift (d : Nat) (hd : 0 < d) : ∀ (n i : Nat) (s : Nat → Int32) (j : Nat), it (fun k r => upd r k (r (d + k))) i n s j = if i ≤ j ∧ j < i + n then s (d + j) else s j := by
  intro n
  induction n with
  | zero => intro i s j; rw [it_0, if_neg (by omega)]
  | succ n ih =>
    intro i s j
    rw [it_s, ih]
    by_cases h : i + 1 ≤ j ∧ j < i + 1 + n
    · rw [if_pos h, if_pos (by omega), pk_un (by omega)]
    · rw [if_neg h]
      by_cases h2 : j = i
      · subst h2
        rw [pk_us, if_pos (by omega)]
      · rw [pk_un h2, if_neg (by omega)]
theorem Rel.zcp {z w : StT} {row : Nat → Int32} (h : Rel z row) : Rel (zcp z w) row := h
theorem RngT.zcp {z w : StT} (h : RngT z) : RngT (zcp z w) := h
theorem save_at (states : Nat) (now book : Nat → Int32) (j : Nat) : (f_X6_save states now book).2 j = if 129 * (if states = 6 then states - 1 else states) + 0 ≤ j ∧ j < 129 * (if states = 6 then states - 1 else states) + 0 + 129 then now (j - 129 * (if states = 6 then states - 1 else states)) else (if states = 6 then it L_X6_save_11 0 645 book else book) j :=
  it_fill now (129 * (if states = 6 then states - 1 else states)) 129 0 _ j
theorem save_new (states : Nat) (now book : Nat → Int32) : (f_X6_save states now book).1 = hsz states := by
  by_cases c : states = 6
  · subst c
    rfl
  · show (if states = 6 then states - 1 else states) + 1 = if states = 6 then 6 else states + 1
    rw [if_neg c, if_neg c]
theorem hist_save {size : Nat} {cc : Nat → StT} {book row : Nat → Int32} {z : StT} (hH : Hs size cc book) (h : Rel z row) (hR : RngT z) : Hs (hsz size) (hcc size cc z) (f_X6_save size row book).2 := by
  obtain ⟨h6, hh⟩ := hH
  by_cases c : size = 6
  · subst c
    have es : ∀ j, (f_X6_save 6 row book).2 j = if 645 ≤ j ∧ j < 774 then row (j - 645) else (if 0 ≤ j ∧ j < 0 + 645 then book (129 + j) else book j) := fun j => by
      rw [save_at]
      rw [show it L_X6_save_11 0 645 book = fun j => if 0 ≤ j ∧ j < 0 + 645 then book (129 + j) else book j from funext (it_shift 129 (by omega) 645 0 book)]
      rfl
    refine ⟨by unfold hsz; rw [if_pos rfl]; omega, fun i hi => ?_⟩
    have hi : i < 6 := by unfold hsz at hi; rw [if_pos rfl] at hi; exact hi
    unfold hcc
    rw [if_pos rfl]
    by_cases e5 : i = 5
    · subst e5
      show Rel (if 5 = 5 then zcp z (cc 0) else cc (5 + 1)) _ ∧ RngT (if 5 = 5 then zcp z (cc 0) else cc (5 + 1))
      rw [if_pos rfl]
      refine ⟨h.zcp.cg (fun j hj => ?_), hR.zcp⟩
      rw [es, if_pos (by omega), show 129 * 5 + j - 645 = j by omega]
    · show Rel (if i = 5 then zcp z (cc 0) else cc (i + 1)) _ ∧ RngT (if i = 5 then zcp z (cc 0) else cc (i + 1))
      rw [if_neg e5]
      obtain ⟨g1, g2⟩ := hh (i + 1) (by omega)
      refine ⟨g1.cg (fun j hj => ?_), g2⟩
      rw [es, if_neg (by omega), if_pos (by omega), show 129 + (129 * i + j) = 129 * (i + 1) + j by omega]
  · have es : ∀ j, (f_X6_save size row book).2 j = if 129 * size + 0 ≤ j ∧ j < 129 * size + 0 + 129 then row (j - 129 * size) else book j := fun j => by
      rw [save_at, if_neg c, if_neg c]
    refine ⟨by unfold hsz; rw [if_neg c]; omega, fun i hi => ?_⟩
    have hi : i < size + 1 := by unfold hsz at hi; rw [if_neg c] at hi; exact hi
    unfold hcc
    rw [if_neg c]
    by_cases e5 : i = size
    · subst e5
      show Rel (if i = i then zcp z (cc i) else cc i) _ ∧ RngT (if i = i then zcp z (cc i) else cc i)
      rw [if_pos rfl]
      refine ⟨h.zcp.cg (fun j hj => ?_), hR.zcp⟩
      rw [es, if_pos (by omega), show 129 * i + j - 129 * i = j by omega]
    · show Rel (if i = size then zcp z (cc size) else cc i) _ ∧ RngT (if i = size then zcp z (cc size) else cc i)
      rw [if_neg e5]
      obtain ⟨g1, g2⟩ := hh i (by omega)
      refine ⟨g1.cg (fun j hj => ?_), g2⟩
      rw [es, if_neg (by omega)]
theorem hist_undo {size : Nat} {cc : Nat → StT} {book now : Nat → Int32} (hH : Hs size cc book) (h1 : 1 ≤ size) : Hs (size - 1) cc book ∧ Rel (cc (size - 1)) (f_X6_undo size now book).2.2.2 ∧ RngT (cc (size - 1)) := by
  obtain ⟨h6, hh⟩ := hH
  obtain ⟨g1, g2⟩ := hh (size - 1) (by omega)
  refine ⟨⟨by omega, fun i hi => hh i (by omega)⟩, g1.cg (fun j hj => ?_), g2⟩
  exact (it_upd (fun j => book (129 * (size - 1) + j)) 129 0 now j).trans (if_pos (by omega))
