/-! trials: when two are locked, who strikes next, which give is the best, the digest -/
abbrev T8 : Type := (Nat → Int32) × (Nat → Int32) × (Nat → Int32) × (Nat → Int32) × (Nat → Int32) × Int32 × Int32 × (Nat → Int32)
def wr8 (bm sp ks gv se : Nat → Int32) (kk : Int32) (s : T8) : StT := (bm, sp, s.1, s.2.1, s.2.2.1, s.2.2.2.1, ks, s.2.2.2.2.1, gv, se, s.2.2.2.2.2.1, kk, s.2.2.2.2.2.2.1, Z0, Z0)
def lkZ (z : StT) (k o : Nat) : Bool := f_X4_areLocked (znt z) (zse z) k o
/-- ticks until two are locked, n tried yet, i gone by -/
def uz (k o : Nat) : Nat → Nat → StT → Int32
  | 0, _, z => if lkZ z k o = true then (500 : Int32) else (-1 : Int32)
  | n + 1, i, z => if lkZ z k o = true then nI i else uz k o n (i + 1) (tickZ z).2
/-- ticks until a strike -/
def nz : Nat → Nat → StT → Int32
  | 0, _, _ => (-1 : Int32)
  | n + 1, i, z => if (tickZ z).1 ≤ 0 then nz n (i + 1) (tickZ z).2 else nI i
section TRI
variable {bm sp ph sg st wy ks nt gv se : Nat → Int32} {tk kk sk : Int32}
theorem t8_1 (s : T8) : (f_X4_tick bm sp s.1 s.2.1 s.2.2.1 s.2.2.2.1 s.2.2.2.2.1 gv se s.2.2.2.2.2.1 s.2.2.2.2.2.2.1 s.2.2.2.2.2.2.2).1 = (tickZ (wr8 bm sp ks gv se kk s)).1 := by
  have h := tick_pl (bm := bm) (sp := sp) (ph := s.1) (sg := s.2.1) (st := s.2.2.1) (wy := s.2.2.2.1) (ks := ks) (nt := s.2.2.2.2.1) (gv := gv) (se := se) (tk := s.2.2.2.2.2.1) (kk := kk) (sk := s.2.2.2.2.2.2.1) s.2.2.2.2.2.2.2 Z0
  have h1 := congrArg (fun a : Int32 × StT => a.1) h
  exact h1
theorem t8_2 (s : T8) : wr8 bm sp ks gv se kk (f_X4_tick bm sp s.1 s.2.1 s.2.2.1 s.2.2.2.1 s.2.2.2.2.1 gv se s.2.2.2.2.2.1 s.2.2.2.2.2.2.1 s.2.2.2.2.2.2.2).2 = (tickZ (wr8 bm sp ks gv se kk s)).2 := by
  have h := tick_pl (bm := bm) (sp := sp) (ph := s.1) (sg := s.2.1) (st := s.2.2.1) (wy := s.2.2.2.1) (ks := ks) (nt := s.2.2.2.2.1) (gv := gv) (se := se) (tk := s.2.2.2.2.2.1) (kk := kk) (sk := s.2.2.2.2.2.2.1) s.2.2.2.2.2.2.2 Z0
  have h1 := congrArg (fun a : Int32 × StT => a.2) h
  exact h1
theorem uz_run (k o : Nat) : ∀ (n i : Nat) (s : T8), (Sum.elim (fun (n13 : T8) => ((if (f_X4_areLocked n13.2.2.2.2.1 se k o) = true then (500 : Int32) else (-1 : Int32)), bm, sp, n13.1, n13.2.1, n13.2.2.1, n13.2.2.2.1, ks, n13.2.2.2.2.1, gv, se, n13.2.2.2.2.2.1, kk, n13.2.2.2.2.2.2.1, n13.2.2.2.2.2.2.2)) (fun r => r) (itx (L_X5_ticksUntilLocked_13 bm sp ks gv se kk k o) i n s)).1 = uz k o n i (wr8 bm sp ks gv se kk s) := by
  intro n
  induction n with
  | zero => intro i s; rw [itx_0]; rfl
  | succ n ih =>
    intro i s
    by_cases c : f_X4_areLocked s.2.2.2.2.1 se k o = true
    · rw [itx_r (r := (nI i, bm, sp, s.1, s.2.1, s.2.2.1, s.2.2.2.1, ks, s.2.2.2.2.1, gv, se, s.2.2.2.2.2.1, kk, s.2.2.2.2.2.2.1, s.2.2.2.2.2.2.2))]
      · have c' : lkZ (wr8 bm sp ks gv se kk s) k o = true := c
        show nI i = if lkZ (wr8 bm sp ks gv se kk s) k o = true then nI i else _
        rw [if_pos c']
      · unfold L_X5_ticksUntilLocked_13
        rw [if_pos c]
    · rw [itx_l (s' := (f_X4_tick bm sp s.1 s.2.1 s.2.2.1 s.2.2.2.1 s.2.2.2.2.1 gv se s.2.2.2.2.2.1 s.2.2.2.2.2.2.1 s.2.2.2.2.2.2.2).2), ih, t8_2]
      · have c' : ¬ lkZ (wr8 bm sp ks gv se kk s) k o = true := c
        show _ = if lkZ (wr8 bm sp ks gv se kk s) k o = true then nI i else _
        rw [if_neg c']
      · unfold L_X5_ticksUntilLocked_13
        rw [if_neg c]
theorem uz_eq (k o : Nat) (p : Nat → Int32) : (f_X5_ticksUntilLocked bm sp ph sg st wy ks nt gv se tk kk sk p k o).1 = uz k o 500 0 (bm, sp, ph, sg, st, wy, ks, nt, gv, se, tk, kk, sk, Z0, Z0) :=
  uz_run k o 500 0 (ph, sg, st, wy, nt, tk, sk, p)
theorem nz_run : ∀ (n i : Nat) (s : T8), (Sum.elim (fun (n13 : T8) => ((-1 : Int32), bm, sp, n13.1, n13.2.1, n13.2.2.1, n13.2.2.2.1, ks, n13.2.2.2.2.1, gv, se, n13.2.2.2.2.2.1, kk, n13.2.2.2.2.2.2.1, n13.2.2.2.2.2.2.2)) (fun r => r) (itx (L_X5_nextStrike_13 bm sp ks gv se kk) i n s)).1 = nz n i (wr8 bm sp ks gv se kk s) := by
  intro n
  induction n with
  | zero => intro i s; rw [itx_0]; rfl
  | succ n ih =>
    intro i s
    have h1 := t8_1 (bm := bm) (sp := sp) (ks := ks) (gv := gv) (se := se) (kk := kk) s
    have h2 := t8_2 (bm := bm) (sp := sp) (ks := ks) (gv := gv) (se := se) (kk := kk) s
    have e : L_X5_nextStrike_13 bm sp ks gv se kk i s = (fun (a : T9) => if a.1 ≤ 0 then .inl a.2 else .inr (nI i, bm, sp, a.2.1, a.2.2.1, a.2.2.2.1, a.2.2.2.2.1, ks, a.2.2.2.2.2.1, gv, se, a.2.2.2.2.2.2.1, kk, a.2.2.2.2.2.2.2.1, a.2.2.2.2.2.2.2.2)) (f_X4_tick bm sp s.1 s.2.1 s.2.2.1 s.2.2.2.1 s.2.2.2.2.1 gv se s.2.2.2.2.2.1 s.2.2.2.2.2.2.1 s.2.2.2.2.2.2.2) := rfl
    have e2 : nz (n + 1) i (wr8 bm sp ks gv se kk s) = if (tickZ (wr8 bm sp ks gv se kk s)).1 ≤ 0 then nz n (i + 1) (tickZ (wr8 bm sp ks gv se kk s)).2 else nI i := rfl
    rw [e2, ← h1, ← h2]
    generalize f_X4_tick bm sp s.1 s.2.1 s.2.2.1 s.2.2.2.1 s.2.2.2.2.1 gv se s.2.2.2.2.2.1 s.2.2.2.2.2.2.1 s.2.2.2.2.2.2.2 = a at e
    by_cases c : a.1 ≤ 0
    · rw [itx_l (s' := a.2) (h := by rw [e]; exact if_pos c), ih, if_pos c]
    · rw [itx_r (r := (nI i, bm, sp, a.2.1, a.2.2.1, a.2.2.2.1, a.2.2.2.2.1, ks, a.2.2.2.2.2.1, gv, se, a.2.2.2.2.2.2.1, kk, a.2.2.2.2.2.2.2.1, a.2.2.2.2.2.2.2.2)) (h := by rw [e]; exact if_neg c), if_neg c]
      rfl
theorem nz_eq (p : Nat → Int32) : (f_X5_nextStrike bm sp ph sg st wy ks nt gv se tk kk sk p).1 = nz 500 1 (bm, sp, ph, sg, st, wy, ks, nt, gv, se, tk, kk, sk, Z0, Z0) :=
  nz_run 500 1 (ph, sg, st, wy, nt, tk, sk, p)
end TRI
theorem uz_spec (k o : Nat) : ∀ (n i : Nat) (z : StT), i + n = 500 → (∃ t, t ≤ n ∧ uz k o n i z = nI (i + t) ∧ lkZ (tks t z) k o = true ∧ ∀ j, j < t → lkZ (tks j z) k o = false) ∨ uz k o n i z = -1 := by
  intro n
  induction n with
  | zero =>
    intro i z e
    show (∃ t, t ≤ 0 ∧ (if lkZ z k o = true then (500 : Int32) else (-1 : Int32)) = nI (i + t) ∧ _) ∨ (if lkZ z k o = true then (500 : Int32) else (-1 : Int32)) = -1
    by_cases c : lkZ z k o = true
    · rw [if_pos c]
      have e : i = 500 := e
      subst e
      exact Or.inl ⟨0, Nat.le_refl 0, by decide +kernel, c, fun j hj => by omega⟩
    · rw [if_neg c]
      exact Or.inr rfl
  | succ n ih =>
    intro i z e
    show (∃ t, t ≤ n + 1 ∧ (if lkZ z k o = true then nI i else uz k o n (i + 1) (tickZ z).2) = nI (i + t) ∧ _) ∨ (if lkZ z k o = true then nI i else uz k o n (i + 1) (tickZ z).2) = -1
    by_cases c : lkZ z k o = true
    · rw [if_pos c]
      exact Or.inl ⟨0, Nat.zero_le _, rfl, c, fun j hj => by omega⟩
    · rw [if_neg c]
      rcases ih (i + 1) (tickZ z).2 (by omega) with ⟨t, t1, t2, t3, t4⟩ | h
      · refine Or.inl ⟨t + 1, by omega, by rw [t2, show i + 1 + t = i + (t + 1) by omega], by rw [tks_s]; exact t3, fun j hj => ?_⟩
        cases j with
        | zero => exact Bool.eq_false_iff.mpr c
        | succ j => rw [tks_s]; exact t4 j (by omega)
      · exact Or.inr h
theorem nz_spec : ∀ (n i : Nat) (z : StT), (∃ t, t < n ∧ nz n i z = nI (i + t) ∧ ¬ (tickZ (tks t z)).1 ≤ 0 ∧ ∀ j, j < t → (tickZ (tks j z)).1 ≤ 0) ∨ nz n i z = -1 := by
  intro n
  induction n with
  | zero => intro i z; exact Or.inr rfl
  | succ n ih =>
    intro i z
    show (∃ t, t < n + 1 ∧ (if (tickZ z).1 ≤ 0 then nz n (i + 1) (tickZ z).2 else nI i) = nI (i + t) ∧ _) ∨ (if (tickZ z).1 ≤ 0 then nz n (i + 1) (tickZ z).2 else nI i) = -1
    by_cases c : (tickZ z).1 ≤ 0
    · rw [if_pos c]
      rcases ih (i + 1) (tickZ z).2 with ⟨t, t1, t2, t3, t4⟩ | h
      · refine Or.inl ⟨t + 1, by omega, by rw [t2, show i + 1 + t = i + (t + 1) by omega], by rw [tks_s]; exact t3, fun j hj => ?_⟩
        cases j with
        | zero => exact c
        | succ j => rw [tks_s]; exact t4 j (by omega)
      · exact Or.inr h
    · rw [if_neg c]
      exact Or.inl ⟨0, by omega, rfl, c, fun j hj => by omega⟩
/-! the best give -/
def gvZ (z : StT) (b : Nat) (v : Int32) : StT := (zbm z, zsp z, zph z, zsg z, zst z, zwy z, zks z, znt z, upd (zgv z) b v, zse z, ztk z, zkk z, zsk z, Z0, Z0)
/-- groups behind 100 ticks with a give -/
def gwZ (z : StT) (b : Nat) (v : Int32) : Int32 := (f_X4_groupsByJoining (znt (tks 100 (gvZ z b v))) (zse z) Z0).1
def bestZ (z : StT) (b : Nat) : Int32 := (it (fun i (s : Int32 × Int32) => ((if s.1 ≤ gwZ z b (nI i) then s.1 else gwZ z b (nI i)), (if s.1 ≤ gwZ z b (nI i) then s.2 else nI i))) 0 21 ((9 : Int32), (0 : Int32))).2
theorem tick_nt {z : StT} (h : NS (znt z)) : NS (znt (tickZ z).2) := NS_look h
theorem tks_nt {z : StT} : ∀ (n : Nat), NS (znt z) → NS (znt (tks n z)) := by
  intro n
  induction n generalizing z with
  | zero => exact fun h => h
  | succ n ih => intro h; rw [tks_s]; exact ih (tick_nt h)
theorem gbj_l {nt se : Nat → Int32} (h : NS nt) (l l' : Nat → Int32) : (f_X4_groupsByJoining nt se l).1 = (f_X4_groupsByJoining nt se l').1 := by
  obtain ⟨g, _, hc⟩ := lay (se := se) h
  rw [hc l, hc l']
section BEST
variable {bm sp ph sg st wy ks nt gv se : Nat → Int32} {tk kk sk : Int32}
theorem lp_nt (p : Nat → Int32) (n : Int32) : (f_X4_letPass bm sp ph sg st wy nt gv se tk sk p n).2.2.2.2.2.1 = znt (tks n.toNatClampNeg (bm, sp, ph, sg, st, wy, ks, nt, gv, se, tk, kk, sk, Z0, Z0)) :=
  congrArg (fun a : Int32 × StT => znt a.2) (lp_eq (ks := ks) (kk := kk) p n)
theorem gw_eq (h : NS nt) (p l : Nat → Int32) (b : Nat) (v : Int32) : (f_X5_groupsWithGive bm sp ph sg st wy ks nt gv se tk kk sk p l b v).1 = gwZ (bm, sp, ph, sg, st, wy, ks, nt, gv, se, tk, kk, sk, Z0, Z0) b v := by
  show (f_X4_groupsByJoining (f_X4_letPass bm sp ph sg st wy nt (upd gv b v) se tk sk p (100 : Int32)).2.2.2.2.2.1 se l).1 = _
  have e1 : (100 : Int32).toNatClampNeg = 100 := by decide +kernel
  have e2 : gvZ (bm, sp, ph, sg, st, wy, ks, nt, gv, se, tk, kk, sk, Z0, Z0) b v = (bm, sp, ph, sg, st, wy, ks, nt, upd gv b v, se, tk, kk, sk, Z0, Z0) := rfl
  have e3 : zse (bm, sp, ph, sg, st, wy, ks, nt, gv, se, tk, kk, sk, Z0, Z0) = se := rfl
  have h2 : NS (znt (bm, sp, ph, sg, st, wy, ks, nt, upd gv b v, se, tk, kk, sk, Z0, Z0)) := h
  rw [lp_nt (ks := ks) (kk := kk), e1]
  unfold gwZ
  rw [e2, e3]
  have h3 := tks_nt 100 h2
  generalize tks 100 (bm, sp, ph, sg, st, wy, ks, nt, upd gv b v, se, tk, kk, sk, Z0, Z0) = Z at h3 ⊢
  exact gbj_l h3 l Z0
theorem best_eq (h : NS nt) (tbm tsp tph tsg tst twy tks_ tnt tgv tse : Nat → Int32) (ttk tkk tsk : Int32) (tpl tld : Nat → Int32) (b : Nat) : (f_X5_bestGive bm sp ph sg st wy ks nt gv se tk kk sk tbm tsp tph tsg tst twy tks_ tnt tgv tse ttk tkk tsk tpl tld b).1 = bestZ (bm, sp, ph, sg, st, wy, ks, nt, gv, se, tk, kk, sk, Z0, Z0) b := by
  unfold f_X5_bestGive bestZ
  have g := it_rel (f := L_X5_bestGive_25 bm sp ph sg st wy ks nt gv se tk kk sk b) (g := fun i (s : Int32 × Int32) => ((if s.1 ≤ gwZ (bm, sp, ph, sg, st, wy, ks, nt, gv, se, tk, kk, sk, Z0, Z0) b (nI i) then s.1 else gwZ (bm, sp, ph, sg, st, wy, ks, nt, gv, se, tk, kk, sk, Z0, Z0) b (nI i)), (if s.1 ≤ gwZ (bm, sp, ph, sg, st, wy, ks, nt, gv, se, tk, kk, sk, Z0, Z0) b (nI i) then s.2 else nI i))) (P := fun a s => a.1 = s.1 ∧ a.2.1 = s.2) 21 (fun i a s hi hp => ?_) 21 0 ((9 : Int32), (0 : Int32), tbm, tsp, tph, tsg, tst, twy, tks_, tnt, tgv, tse, ttk, tkk, tsk, tpl, tld) ((9 : Int32), (0 : Int32)) (by omega) ⟨rfl, rfl⟩
  · exact g.2
  · obtain ⟨e1, e2⟩ := hp
    have eg := gw_eq (bm := bm) (sp := sp) (ph := ph) (sg := sg) (st := st) (wy := wy) (ks := ks) (gv := gv) (se := se) (tk := tk) (kk := kk) (sk := sk) h a.2.2.2.2.2.2.2.2.2.2.2.2.2.2.2.1 a.2.2.2.2.2.2.2.2.2.2.2.2.2.2.2.2 b (nI i)
    unfold L_X5_bestGive_25
    dsimp only
    rw [eg, e1, e2]
    exact ⟨rfl, rfl⟩
end BEST
theorem best_rng (z : StT) (b : Nat) : 0 ≤ (bestZ z b).toInt ∧ (bestZ z b).toInt ≤ 20 := by
  unfold bestZ
  refine it_invI (P := fun _ (s : Int32 × Int32) => 0 ≤ s.2.toInt ∧ s.2.toInt ≤ 20) 21 (fun i s hi hp => ?_) 21 0 ((9 : Int32), (0 : Int32)) (by omega) ⟨Int.le_refl 0, (by decide : (0 : Int) ≤ 20)⟩
  show 0 ≤ (if s.1 ≤ gwZ z b (nI i) then s.2 else nI i).toInt ∧ (if s.1 ≤ gwZ z b (nI i) then s.2 else nI i).toInt ≤ 20
  split
  · exact hp
  · rw [nI_toInt (by omega)]
    omega
