/-! what both tell of a state that is the same -/
theorem it_relB {α β : Type} {f : Nat → α → α} {g : Nat → β → β} {P : α → β → Prop} (i0 N : Nat) (hs : ∀ i a b, i0 ≤ i → i < N → P a b → P (f i a) (g i b)) : ∀ (n i : Nat) (a : α) (b : β), i0 ≤ i → i + n ≤ N → P a b → P (it f i n a) (it g i n b)
  | 0, i, a, b, _, _, h => by rw [it_0, it_0]; exact h
  | n + 1, i, a, b, h0, hi, h => by
    rw [it_s, it_s]
    exact it_relB i0 N hs n (i + 1) _ _ (by omega) (by omega) (hs i a b h0 (by omega) h)
theorem it_cg {α : Type} {f g : Nat → α → α} (i0 N : Nat) (hs : ∀ i a, i0 ≤ i → i < N → f i a = g i a) (n i : Nat) (a : α) (h0 : i0 ≤ i) (hi : i + n ≤ N) : it f i n a = it g i n a :=
  it_relB (P := fun a b => a = b) i0 N (fun i a b h0 hi h => by rw [h]; exact hs i b h0 hi) n i a a h0 hi rfl
theorem it_upd (g : Nat → Int32) : ∀ (n i : Nat) (s : Nat → Int32) (j : Nat), it (fun k r => upd r k (g k)) i n s j = if i ≤ j ∧ j < i + n then g j else s j := by
  intro n
  induction n with
  | zero => intro i s j; rw [it_0, if_neg (by omega)]
  | succ n ih =>
    intro i s j
    rw [it_s, ih]
    by_cases h : i + 1 ≤ j ∧ j < i + 1 + n
    · rw [if_pos h, if_pos (by omega)]
    · rw [if_neg h]
      by_cases h2 : j = i
      · subst h2
        rw [pk_us, if_pos (by omega)]
      · rw [pk_un h2, if_neg (by omega)]
theorem neg_toInt {x : Int32} (h : -2147483648 < x.toInt) : (-x).toInt = -x.toInt := by
  have := x.toInt_lt
  rw [Int32.toInt_neg]
  exact Int.bmod_eq_of_le (by omega) (by omega)
theorem sub_toInt {a b : Int32} (h1 : -2147483648 ≤ a.toInt - b.toInt) (h2 : a.toInt - b.toInt < 2147483648) : (a - b).toInt = a.toInt - b.toInt := by
  rw [Int32.toInt_sub]
  exact Int.bmod_eq_of_le (by omega) (by omega)
/-- what the numbers of a state are -/
def Rng (bm sp ph se : Nat → Int32) : Prop :=
  (∀ k, k < 8 → vp_in (bm k) 3) ∧ (∀ k, k < 8 → 10 ≤ (sp k).toInt ∧ (sp k).toInt ≤ 60) ∧ (∀ k, k < 8 → 0 ≤ (ph k).toInt ∧ (ph k).toInt < 1000) ∧ (0 ≤ (se 0).toInt ∧ (se 0).toInt ≤ 50)
section LOOK
variable {bm sp ph sg st wy ks nt gv se : Nat → Int32} {tk kk sk : Int32} {pl ld : Nat → Int32} {row : Nat → Int32}
theorem Rel.e0 (h : Rel (bm, sp, ph, sg, st, wy, ks, nt, gv, se, tk, kk, sk, pl, ld) row) {k : Nat} (hk : k < 8) : row (6 + 7 * k + 0) = bm k := (h.1 k hk).1
theorem Rel.e1 (h : Rel (bm, sp, ph, sg, st, wy, ks, nt, gv, se, tk, kk, sk, pl, ld) row) {k : Nat} (hk : k < 8) : row (6 + 7 * k + 1) = sp k := (h.1 k hk).2.1
theorem Rel.e2 (h : Rel (bm, sp, ph, sg, st, wy, ks, nt, gv, se, tk, kk, sk, pl, ld) row) {k : Nat} (hk : k < 8) : row (6 + 7 * k + 2) = ph k := (h.1 k hk).2.2.1
theorem Rel.e3 (h : Rel (bm, sp, ph, sg, st, wy, ks, nt, gv, se, tk, kk, sk, pl, ld) row) {k : Nat} (hk : k < 8) : row (6 + 7 * k + 3) = sg k := (h.1 k hk).2.2.2.1
theorem Rel.e4 (h : Rel (bm, sp, ph, sg, st, wy, ks, nt, gv, se, tk, kk, sk, pl, ld) row) {k : Nat} (hk : k < 8) : row (6 + 7 * k + 4) = st k := (h.1 k hk).2.2.2.2.1
theorem Rel.e5 (h : Rel (bm, sp, ph, sg, st, wy, ks, nt, gv, se, tk, kk, sk, pl, ld) row) {k : Nat} (hk : k < 8) : row (6 + 7 * k + 5) = wy k := (h.1 k hk).2.2.2.2.2.1
theorem Rel.e6 (h : Rel (bm, sp, ph, sg, st, wy, ks, nt, gv, se, tk, kk, sk, pl, ld) row) {k : Nat} (hk : k < 8) : row (6 + 7 * k + 6) = ks k := (h.1 k hk).2.2.2.2.2.2
theorem Rel.en (h : Rel (bm, sp, ph, sg, st, wy, ks, nt, gv, se, tk, kk, sk, pl, ld) row) {k o : Nat} (hk : k < 8) (ho : o < 8) (hne : k ≠ o) : row (f_X6_near k o) = nt (k * 8 + o) := h.2.1 k hk o ho hne
theorem Rel.eg (h : Rel (bm, sp, ph, sg, st, wy, ks, nt, gv, se, tk, kk, sk, pl, ld) row) {b : Nat} (hb : b < 3) : row (0 + b) = gv b := h.2.2.1 b hb
theorem Rel.es (h : Rel (bm, sp, ph, sg, st, wy, ks, nt, gv, se, tk, kk, sk, pl, ld) row) {i : Nat} (hi : i < 3) : row (3 + i) = se i := h.2.2.2.1 i hi
theorem Rel.et (h : Rel (bm, sp, ph, sg, st, wy, ks, nt, gv, se, tk, kk, sk, pl, ld) row) : row 126 = tk := h.2.2.2.2.1
theorem Rel.ek (h : Rel (bm, sp, ph, sg, st, wy, ks, nt, gv, se, tk, kk, sk, pl, ld) row) : row 127 = kk := h.2.2.2.2.2.1
theorem Rel.eu (h : Rel (bm, sp, ph, sg, st, wy, ks, nt, gv, se, tk, kk, sk, pl, ld) row) : row 128 = sk := h.2.2.2.2.2.2
theorem r_goes (h : Rel (bm, sp, ph, sg, st, wy, ks, nt, gv, se, tk, kk, sk, pl, ld) row) {k : Nat} (hk : k < 8) : f_X6_goes row k = f_X4_goes sg k := by
  unfold f_X6_goes f_X4_goes
  rw [h.e3 hk]
theorem r_beam (h : Rel (bm, sp, ph, sg, st, wy, ks, nt, gv, se, tk, kk, sk, pl, ld) row) {k : Nat} (hk : k < 8) : f_X6_beamOf row k = bm k := h.e0 hk
theorem r_gap (h : Rel (bm, sp, ph, sg, st, wy, ks, nt, gv, se, tk, kk, sk, pl, ld) row) {k o : Nat} (hk : k < 8) (ho : o < 8) : f_X6_gap row k o = f_X4_gapFrom ph k o := by
  unfold f_X6_gap f_X4_gapFrom
  rw [h.e2 hk, h.e2 ho]
theorem r_locked (h : Rel (bm, sp, ph, sg, st, wy, ks, nt, gv, se, tk, kk, sk, pl, ld) row) {k o : Nat} (hk : k < 8) (ho : o < 8) (hne : k ≠ o) : f_X6_isLocked row k o = f_X4_areLocked nt se k o := by
  unfold f_X6_isLocked f_X4_areLocked
  have e : row 5 = se 2 := h.es (i := 2) (by omega)
  rw [if_neg hne, h.en hk ho hne, e]
theorem gap_toInt (hp : ∀ k, k < 8 → 0 ≤ (ph k).toInt ∧ (ph k).toInt < 1000) {k o : Nat} (hk : k < 8) (ho : o < 8) : (f_X4_gapFrom ph k o).toInt = if (ph o).toInt - (ph k).toInt < 500 then (if -500 ≤ (ph o).toInt - (ph k).toInt then (ph o).toInt - (ph k).toInt else (ph o).toInt - (ph k).toInt + 1000) else (ph o).toInt - (ph k).toInt - 1000 := by
  have h1 := hp k hk
  have h2 := hp o ho
  unfold f_X4_gapFrom
  have e : (ph o - ph k).toInt = (ph o).toInt - (ph k).toInt := sub_toInt (by omega) (by omega)
  have z1 : (500 : Int32).toInt = 500 := rfl
  have z2 : (-500 : Int32).toInt = -500 := rfl
  have z3 : (1000 : Int32).toInt = 1000 := rfl
  by_cases c1 : (ph o).toInt - (ph k).toInt < 500
  · rw [if_pos c1, if_pos (Int32.lt_iff_toInt_lt.mpr (by omega))]
    by_cases c2 : -500 ≤ (ph o).toInt - (ph k).toInt
    · rw [if_pos c2, if_pos (Int32.le_iff_toInt_le.mpr (by omega))]
      exact e
    · rw [if_neg c2, if_neg (fun q => by have := Int32.le_iff_toInt_le.mp q; omega), add_toInt (by omega) (by omega), e, z3]
  · rw [if_neg c1, if_neg (fun q => by have := Int32.lt_iff_toInt_lt.mp q; omega), sub_toInt (by omega) (by omega), e, z3]
theorem gap_ge (hp : ∀ k, k < 8 → 0 ≤ (ph k).toInt ∧ (ph k).toInt < 1000) {k o : Nat} (hk : k < 8) (ho : o < 8) : -500 ≤ (f_X4_gapFrom ph k o).toInt ∧ (f_X4_gapFrom ph k o).toInt < 500 := by
  have h1 := hp k hk
  have h2 := hp o ho
  rw [gap_toInt hp hk ho]
  split
  · split <;> omega
  · omega
/-- a gap without its sign -/
theorem abs_toInt {g : Int32} (h : -2147483648 < g.toInt) : (if 0 ≤ g then g else 0 - g).toInt = if 0 ≤ g.toInt then g.toInt else -g.toInt := by
  have z0 : (0 : Int32).toInt = 0 := rfl
  by_cases c : 0 ≤ g.toInt
  · rw [if_pos c, if_pos (Int32.le_iff_toInt_le.mpr (by omega))]
  · rw [if_neg c, if_neg (fun q => by have := Int32.le_iff_toInt_le.mp q; omega), Int32.zero_sub, neg_toInt h]
theorem size_eq (g : Int32) : f_X6_size g = if 0 ≤ g then g else 0 - g := by
  unfold f_X6_size
  rw [Int32.zero_sub]
theorem abs_sym (hp : ∀ k, k < 8 → 0 ≤ (ph k).toInt ∧ (ph k).toInt < 1000) {k o : Nat} (hk : k < 8) (ho : o < 8) : (if 0 ≤ f_X4_gapFrom ph k o then f_X4_gapFrom ph k o else 0 - f_X4_gapFrom ph k o) = (if 0 ≤ f_X4_gapFrom ph o k then f_X4_gapFrom ph o k else 0 - f_X4_gapFrom ph o k) := by
  have g1 := gap_ge hp hk ho
  have g2 := gap_ge hp ho hk
  have h1 := hp k hk
  have h2 := hp o ho
  apply Int32.toInt_inj.mp
  rw [abs_toInt (by omega), abs_toInt (by omega), gap_toInt hp hk ho, gap_toInt hp ho hk]
  repeat' split
  all_goals omega
theorem r_near (h : Rel (bm, sp, ph, sg, st, wy, ks, nt, gv, se, tk, kk, sk, pl, ld) row) (hp : ∀ k, k < 8 → 0 ≤ (ph k).toInt ∧ (ph k).toInt < 1000) {k o : Nat} (hk : k < 8) (ho : o < 8) : f_X6_isNear row k o = f_X4_areNear ph se k o := by
  unfold f_X6_isNear f_X4_areNear
  have e : row 4 = se 1 := h.es (i := 1) (by omega)
  rw [e, size_eq]
  by_cases c : o ≤ k
  · rw [if_pos c, r_gap h ho hk, abs_sym hp ho hk]
  · rw [if_neg c, r_gap h hk ho]
theorem clamp_eq {S m : Int32} (h0 : 0 ≤ m.toInt) : (if S ≤ m then (if -m ≤ S then S else -m) else m) = (if -m < (if S < m then S else m) then (if S < m then S else m) else -m) := by
  have hn : (-m).toInt = -m.toInt := neg_toInt (by omega)
  generalize -m = q at hn ⊢
  apply Int32.toInt_inj.mp
  by_cases c1 : S.toInt < m.toInt
  · rw [if_pos (Int32.lt_iff_toInt_lt.mpr c1), if_pos (Int32.le_iff_toInt_le.mpr (by omega))]
    by_cases c2 : q.toInt < S.toInt
    · rw [if_pos (Int32.lt_iff_toInt_lt.mpr c2), if_pos (Int32.le_iff_toInt_le.mpr (by omega))]
    · rw [if_neg (fun z => c2 (Int32.lt_iff_toInt_lt.mp z))]
      by_cases c3 : q.toInt ≤ S.toInt
      · rw [if_pos (Int32.le_iff_toInt_le.mpr c3)]
        omega
      · rw [if_neg (fun z => c3 (Int32.le_iff_toInt_le.mp z))]
  · rw [if_neg (fun z => c1 (Int32.lt_iff_toInt_lt.mp z))]
    by_cases c4 : q.toInt < m.toInt
    · rw [if_pos (Int32.lt_iff_toInt_lt.mpr c4)]
      by_cases c5 : S.toInt ≤ m.toInt
      · rw [if_pos (Int32.le_iff_toInt_le.mpr c5), if_pos (Int32.le_iff_toInt_le.mpr (by omega))]
        omega
      · rw [if_neg (fun z => c5 (Int32.le_iff_toInt_le.mp z))]
    · rw [if_neg (fun z => c4 (Int32.lt_iff_toInt_lt.mp z))]
      by_cases c5 : S.toInt ≤ m.toInt
      · rw [if_pos (Int32.le_iff_toInt_le.mpr c5), if_pos (Int32.le_iff_toInt_le.mpr (by omega))]
        omega
      · rw [if_neg (fun z => c5 (Int32.le_iff_toInt_le.mp z))]
        omega
theorem isBeam5 {a : Int32} (h : vp_in a 3) : f_X5_isBeam a = true := by
  have := vp_in_iff.mp h
  unfold f_X5_isBeam
  have z0 : (0 : Int32).toInt = 0 := rfl
  have z3 : (3 : Int32).toInt = 3 := rfl
  rw [if_neg (fun q => by have := Int32.lt_iff_toInt_lt.mp q; omega), if_neg (fun q => by have := Int32.le_iff_toInt_le.mp q; omega)]
theorem r_pull (h : Rel (bm, sp, ph, sg, st, wy, ks, nt, gv, se, tk, kk, sk, pl, ld) row) (hR : Rng bm sp ph se) {k : Nat} (hk : k < 8) : f_X6_pull row k = f_X4_pullOf bm ph sg gv se k := by
  have e3 : row 3 = se 0 := h.es (i := 0) (by omega)
  have eS : it (L_X6_pull_14 row k) 0 8 (0 : Int32) = it (L_X4_pullOf_29 bm ph sg gv k) 0 8 (0 : Int32) := by
    refine it_cg 0 8 (fun i a _ hi => ?_) 8 0 _ (by omega) (by omega)
    unfold L_X6_pull_14 L_X4_pullOf_29 f_X4_hangsOn
    rw [r_goes h hi, r_beam h hi, r_beam h hk, r_gap h hk hi, Int32.zero_add]
    obtain ⟨j, hj, ej⟩ := vp_in_of (hR.1 k hk) (by decide)
    have eg : row (bm k).toNatClampNeg = gv (bm k).toNatClampNeg := by
      rw [ej, nI_clamp (by omega)]
      have := h.eg hj
      rw [Nat.zero_add] at this
      exact this
    rw [eg]
    by_cases c1 : i = k
    · rw [if_pos c1, if_pos c1]
    · rw [if_neg c1, if_neg c1]
      by_cases c2 : f_X4_goes sg i = true
      · rw [if_pos c2, if_pos c2]
        by_cases c3 : bm i = bm k
        · rw [if_pos c3, if_pos c3, if_pos rfl]
        · rw [if_neg c3, if_neg c3, if_neg (by decide)]
      · rw [if_neg c2, if_neg c2]
  unfold f_X6_pull f_X4_pullOf
  rw [eS, e3, r_goes h hk, if_pos (isBeam5 (hR.1 k hk))]
  by_cases c : f_X4_goes sg k = true
  · rw [if_pos c, if_pos c]
    exact clamp_eq hR.2.2.2.1
  · rw [if_neg c, if_neg c]
theorem pull_rng (hR : Rng bm sp ph se) (k : Nat) : -50 ≤ (f_X4_pullOf bm ph sg gv se k).toInt ∧ (f_X4_pullOf bm ph sg gv se k).toInt ≤ 50 := by
  have h0 := hR.2.2.2
  have z0 : (0 : Int32).toInt = 0 := rfl
  unfold f_X4_pullOf
  generalize it (L_X4_pullOf_29 bm ph sg gv k) 0 8 (0 : Int32) = S
  have hn : (-(se 0)).toInt = -(se 0).toInt := neg_toInt (by omega)
  split
  · split
    · by_cases c1 : S < se 0
      · rw [if_pos c1]
        have c1 := Int32.lt_iff_toInt_lt.mp c1
        split
        · rename_i c2
          have c2 := Int32.lt_iff_toInt_lt.mp c2
          omega
        · omega
      · rw [if_neg c1]
        split <;> omega
    · omega
  · omega
end LOOK
