/-! the orders' functions, class against reference -/
def rmod (x : Int32) : Int32 := (if 0 ≤ (x - x / (1000 : Int32) * (1000 : Int32)) then (x - x / (1000 : Int32) * (1000 : Int32)) else ((x - x / (1000 : Int32) * (1000 : Int32)) + (1000 : Int32)))
set_option maxRecDepth 100000 in
theorem fm_key : ∀ n : Nat, n < 2000 → f_J9_floorMod_7cf53 (Int32.ofInt ((n : Int) - 500)) 1000 = rmod (Int32.ofInt ((n : Int) - 500)) ∧ 0 ≤ (rmod (Int32.ofInt ((n : Int) - 500))).toInt ∧ (rmod (Int32.ofInt ((n : Int) - 500))).toInt < 1000 := by decide +kernel
theorem fm_eq {x : Int32} (h1 : -500 ≤ x.toInt) (h2 : x.toInt < 1500) : f_J9_floorMod_7cf53 x 1000 = rmod x ∧ 0 ≤ (rmod x).toInt ∧ (rmod x).toInt < 1000 := by
  have h := fm_key (x.toInt + 500).toNat (by omega)
  have e : (((x.toInt + 500).toNat : Int) - 500) = x.toInt := by omega
  rw [e, Int32.ofInt_toInt] at h
  exact h
theorem doKick_now (now : Nat → Int32) (k : Nat) (v : Int32) : (f_X6_doKick now k v).2 = upd (upd (upd now ((6 + (7 * k)) + 2) (rmod (now ((6 + (7 * k)) + 2) + v))) ((6 + (7 * k)) + 6) ((upd now ((6 + (7 * k)) + 2) (rmod (now ((6 + (7 * k)) + 2) + v))) ((6 + (7 * k)) + 6) + v)) 127 ((upd (upd now ((6 + (7 * k)) + 2) (rmod (now ((6 + (7 * k)) + 2) + v))) ((6 + (7 * k)) + 6) ((upd now ((6 + (7 * k)) + 2) (rmod (now ((6 + (7 * k)) + 2) + v))) ((6 + (7 * k)) + 6) + v)) 127 + 1) := rfl
theorem add_toInt {a b : Int32} (h1 : -2147483648 ≤ a.toInt + b.toInt) (h2 : a.toInt + b.toInt < 2147483648) : (a + b).toInt = a.toInt + b.toInt := by
  rw [Int32.toInt_add]
  exact Int.bmod_eq_of_le (by omega) (by omega)
theorem Rel_kick {bm sp ph sg st wy ks nt gv se : Nat → Int32} {tk kk sk : Int32} {pl ld : Nat → Int32} {row : Nat → Int32} (h : Rel (bm, sp, ph, sg, st, wy, ks, nt, gv, se, tk, kk, sk, pl, ld) row) {k : Nat} (hk : k < 8) {v : Int32} (hp : 0 ≤ (ph k).toInt ∧ (ph k).toInt < 1000) (hv : -500 ≤ v.toInt ∧ v.toInt ≤ 500) : Rel (bm, sp, (f_X4_kickBy ph ks kk k v).1, sg, st, wy, (f_X4_kickBy ph ks kk k v).2.1, nt, gv, se, tk, (f_X4_kickBy ph ks kk k v).2.2, sk, pl, ld) (f_X6_doKick row k v).2 := by
  rw [doKick_now]
  have e2 : row ((6 + (7 * k)) + 2) = ph k := (h.1 k hk).2.2.1
  rw [e2]
  have e6 : (upd row ((6 + (7 * k)) + 2) (rmod (ph k + v))) ((6 + (7 * k)) + 6) = ks k := (pk_un (by omega)).trans (h.1 k hk).2.2.2.2.2.2
  rw [e6]
  have e7 : (upd (upd row ((6 + (7 * k)) + 2) (rmod (ph k + v))) ((6 + (7 * k)) + 6) (ks k + v)) 127 = kk := (pk_un (by omega)).trans ((pk_un (by omega)).trans h.2.2.2.2.2.1)
  rw [e7]
  have ea : (ph k + v).toInt = (ph k).toInt + v.toInt := add_toInt (by omega) (by omega)
  have f := fm_eq (x := ph k + v) (by omega) (by omega)
  unfold f_X4_kickBy
  rw [f.1]
  exact ((h.clk2 hk _).clk6 hk _).kk _
theorem it_rel {α β : Type} {f : Nat → α → α} {g : Nat → β → β} {P : α → β → Prop} (N : Nat) (hs : ∀ i a b, i < N → P a b → P (f i a) (g i b)) : ∀ (n i : Nat) (a : α) (b : β), i + n ≤ N → P a b → P (it f i n a) (it g i n b)
  | 0, i, a, b, _, h => by rw [it_0, it_0]; exact h
  | n + 1, i, a, b, hi, h => by
    rw [it_s, it_s]
    exact it_rel N hs n (i + 1) _ _ (by omega) (hs i a b (by omega) h)
theorem Rel.diag {bm sp ph sg st wy ks nt gv se : Nat → Int32} {tk kk sk : Int32} {pl ld : Nat → Int32} {row : Nat → Int32} (h : Rel (bm, sp, ph, sg, st, wy, ks, nt, gv, se, tk, kk, sk, pl, ld) row) {k : Nat} (hk : k < 8) (v : Int32) : Rel (bm, sp, ph, sg, st, wy, ks, upd (upd nt (k * 8 + k) v) (k * 8 + k) v, gv, se, tk, kk, sk, pl, ld) row := by
  obtain ⟨h1, h2, h3⟩ := h
  refine ⟨h1, fun j hj o ho hne => ?_, h3⟩
  show row (f_X6_near j o) = upd (upd nt (k * 8 + k) v) (k * 8 + k) v (j * 8 + o)
  rw [pk_un (by omega), pk_un (by omega)]
  exact h2 j hj o ho hne
theorem Rel_move {bm sp ph sg st wy ks nt gv se : Nat → Int32} {tk kk sk : Int32} {pl ld : Nat → Int32} {row : Nat → Int32} (h : Rel (bm, sp, ph, sg, st, wy, ks, nt, gv, se, tk, kk, sk, pl, ld) row) {k : Nat} (hk : k < 8) (b : Int32) : Rel ((f_X4_hangOn bm nt k b).1, sp, ph, sg, st, wy, ks, (f_X4_hangOn bm nt k b).2, gv, se, tk, kk, sk, pl, ld) (f_X6_doMove row k b).2 := by
  unfold f_X4_hangOn f_X6_doMove
  refine it_rel (P := fun (a : Nat → Int32) (z : Int32 × (Nat → Int32)) => Rel (upd bm k b, sp, ph, sg, st, wy, ks, a, gv, se, tk, kk, sk, pl, ld) z.2) 8 (fun i a z hi hr => ?_) 8 0 _ _ (by omega) (h.clk0 hk b)
  unfold L_X4_hangOn_9 L_X6_doMove_17 f_X4_setTicksNear
  dsimp only
  by_cases e : i = k
  · rw [if_pos e, e]
    exact hr.diag hk 0
  · rw [if_neg e]
    exact hr.nr hk hi (fun q => e q.symm) 0
