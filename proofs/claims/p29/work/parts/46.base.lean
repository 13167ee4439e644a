/-! what the law's smaller methods want -/
theorem lg_pos {n : Nat} (hn : n < 1000) : ¬ lg_cmp (nI (n + 1)).toInt64 0 ≤ 0 := by
  intro q
  have h1 : 0 < lg_cmp (nI (n + 1)).toInt64 0 := (cmp_gt0 _ _).mpr (by rw [l_i, nI_toInt (by omega)]; show (0 : Int) < _; omega)
  have h2 := Int32.lt_iff_toInt_lt.mp h1
  have h3 := Int32.le_iff_toInt_le.mp q
  omega
theorem lg_nlt {x : Int32} (h : 0 ≤ x.toInt) : ¬ lg_cmp x.toInt64 0 < 0 := by
  intro q
  have h1 := (cmp_lt0 _ _).mp q
  rw [l_i] at h1
  have h2 : (0 : Int64).toInt = 0 := rfl
  omega
theorem lg_lti {x : Int64} (h : 0 ≤ x.toInt) : ¬ lg_cmp x 0 < 0 := by
  intro q
  have h1 := (cmp_lt0 _ _).mp q
  have h2 : (0 : Int64).toInt = 0 := rfl
  omega
theorem nf_of {n : Nat} (h : n < 60) : ¬ f_X3_isFull n = true := by
  have key : ∀ n : Nat, n < 60 → f_X3_isFull n = false := by decide +kernel
  rw [key n h]
  decide
theorem app_ok {A : Ab} {c : Int32} (hc : (¬ (c < (33 : Int32))) ∧ (c ≤ (126 : Int32))) (hl : A.2.2.2.length < 60) : appendA A c = ((nI (A.2.2.2.length + 1)).toInt64, (A.1, A.2.1, A.2.2.1, A.2.2.2 ++ [c])) := by
  unfold appendA
  rw [if_pos hc, if_pos (nf_of hl)]
theorem wind_v {b : Nat} {A : Ab} (hI : IA b A) {k : Nat} (hk : k < 8) : windA A (nI k) = ((zsg (wdZ A.1 k) k - zsg A.1 k).toInt64, newA A (wdZ A.1 k)) ∧ 0 ≤ (zsg (wdZ A.1 k) k - zsg A.1 k).toInt := by
  constructor
  · unfold windA
    rw [if_pos (clk_ok hk), nI_clamp (by omega)]
  · have h := (hI.1.2.2.1 k hk).2.1
    have e : zsg (wdZ A.1 k) k = 99 := by
      show upd (zsg A.1) k 99 k = 99
      exact pk_us
    rw [e]
    have z : (99 : Int32).toInt = 99 := rfl
    rw [sub_toInt (by omega) (by omega)]
    omega
/-- six winds behind one another -/
def wpA (A : Ab) : Nat → Ab
  | 0 => A
  | k + 1 => newA (wpA A k) (wdZ (wpA A k).1 k)
theorem wpA_IA {b : Nat} {A : Ab} (hI : IA b A) : ∀ k, k ≤ 8 → IA b (wpA A k)
  | 0, _ => hI
  | k + 1, hk => by
    have h := wpA_IA hI k (by omega)
    exact h.new (Nat.le_refl _) (IZ_wind h.1 (by omega))
theorem push_drop (X : List StT) (z : StT) : pushL (X.drop (X.length - 6)) z = (X ++ [z]).drop (X.length + 1 - 6) := by
  unfold pushL
  rw [List.length_drop]
  by_cases c : 6 ≤ X.length
  · rw [if_pos (by omega), List.tail_drop, show X.length - 6 + 1 = X.length + 1 - 6 by omega, List.drop_append, show X.length + 1 - 6 - X.length = 0 by omega]
    rfl
  · rw [if_neg (by omega), show X.length - 6 = 0 by omega, show X.length + 1 - 6 = 0 by omega]
    rfl
theorem push6 (h : List StT) (hl : h.length ≤ 6) (z0 z1 z2 z3 z4 z5 : StT) : pushL (pushL (pushL (pushL (pushL (pushL h z0) z1) z2) z3) z4) z5 = [z0, z1, z2, z3, z4, z5] := by
  have e0 : pushL h z0 = (h ++ [z0]).drop ((h ++ [z0]).length - 6) := by
    have := push_drop h z0
    rw [show h.length - 6 = 0 by omega] at this
    rw [List.length_append]
    exact this
  have st : ∀ (X : List StT) (z : StT), pushL (X.drop (X.length - 6)) z = (X ++ [z]).drop ((X ++ [z]).length - 6) := fun X z => by
    rw [push_drop X z, List.length_append]
    rfl
  rw [e0, st, st, st, st, st]
  have e : h ++ [z0] ++ [z1] ++ [z2] ++ [z3] ++ [z4] ++ [z5] = h ++ [z0, z1, z2, z3, z4, z5] := by simp only [List.append_assoc, List.cons_append, List.nil_append]
  rw [e]
  refine List.drop_left' ?_
  rw [List.length_append]
  show h.length = h.length + 6 - 6
  omega
theorem wp_hist {A : Ab} (hl : A.2.2.1.length ≤ 6) : (wpA A 6).2.2.1 = [A.1, (wpA A 1).1, (wpA A 2).1, (wpA A 3).1, (wpA A 4).1, (wpA A 5).1] := push6 A.2.2.1 hl _ _ _ _ _ _
theorem wp_eq {A B : Ab} (h1 : A.1 = B.1) (h2 : A.2.1 = B.2.1) (h3 : A.2.2.2 = B.2.2.2) (hA : A.2.2.1.length ≤ 6) (hB : B.2.2.1.length ≤ 6) : wpA A 6 = wpA B 6 := by
  have e : ∀ k, (wpA A k).1 = (wpA B k).1 ∧ (wpA A k).2.1 = (wpA B k).2.1 ∧ (wpA A k).2.2.2 = (wpA B k).2.2.2 := by
    intro k
    induction k with
    | zero => exact ⟨h1, h2, h3⟩
    | succ k ih =>
      refine ⟨?_, ih.2.1, ih.2.2⟩
      show wdZ (wpA A k).1 k = wdZ (wpA B k).1 k
      rw [ih.1]
  have hh : (wpA A 6).2.2.1 = (wpA B 6).2.2.1 := by rw [wp_hist hA, wp_hist hB, h1, (e 1).1, (e 2).1, (e 3).1, (e 4).1, (e 5).1]
  obtain ⟨e1, e2, e3⟩ := e 6
  generalize wpA A 6 = X at *
  generalize wpA B 6 = Y at *
  obtain ⟨x1, x2, x3, x4⟩ := X
  obtain ⟨y1, y2, y3, y4⟩ := Y
  have e1 : x1 = y1 := e1
  have e2 : x2 = y2 := e2
  have e3 : x4 = y4 := e3
  have hh : x3 = y3 := hh
  rw [e1, e2, e3, hh]
theorem move_own {b : Nat} {A : Ab} (hI : IA b A) : moveA A (5 : Int32) ((clockA A (5 : Int32) (0 : Int32)).toInt32) = (rS, A) := by
  have e : (clockA A (5 : Int32) (0 : Int32)).toInt32 = zbm A.1 5 := by
    unfold clockA
    rw [if_pos (by decide +kernel), if_pos (by decide +kernel), Int32.toInt32_toInt64]
    rfl
  rw [e]
  unfold moveA
  have h3 := vp_nI (hI.1.1 5 (by omega))
  have h4 := bm_ok (vp_lt (hI.1.1 5 (by omega)))
  rw [h3] at h4
  have h5 : ¬ (¬ (f_X4_hangsOn (zbm A.1) (5 : Int32).toNatClampNeg (zbm A.1 5)) = true) := fun q => q ((hangs_iff _ _ _).mpr rfl)
  rw [if_pos (by decide +kernel), if_pos h4, if_neg h5]
