/-! a state without its work rows; ticks; what is so of every state -/
def Z0 : Nat → Int32 := fun _ => 0
abbrev zbm (z : StT) : Nat → Int32 := z.1
abbrev zsp (z : StT) : Nat → Int32 := z.2.1
abbrev zph (z : StT) : Nat → Int32 := z.2.2.1
abbrev zsg (z : StT) : Nat → Int32 := z.2.2.2.1
abbrev zst (z : StT) : Nat → Int32 := z.2.2.2.2.1
abbrev zwy (z : StT) : Nat → Int32 := z.2.2.2.2.2.1
abbrev zks (z : StT) : Nat → Int32 := z.2.2.2.2.2.2.1
abbrev znt (z : StT) : Nat → Int32 := z.2.2.2.2.2.2.2.1
abbrev zgv (z : StT) : Nat → Int32 := z.2.2.2.2.2.2.2.2.1
abbrev zse (z : StT) : Nat → Int32 := z.2.2.2.2.2.2.2.2.2.1
abbrev ztk (z : StT) : Int32 := z.2.2.2.2.2.2.2.2.2.2.1
abbrev zkk (z : StT) : Int32 := z.2.2.2.2.2.2.2.2.2.2.2.1
abbrev zsk (z : StT) : Int32 := z.2.2.2.2.2.2.2.2.2.2.2.2.1
/-- the same state, its work rows empty -/
def cl (z : StT) : StT := (zbm z, zsp z, zph z, zsg z, zst z, zwy z, zks z, znt z, zgv z, zse z, ztk z, zkk z, zsk z, Z0, Z0)
theorem cl_cl (z : StT) : cl (cl z) = cl z := rfl
abbrev T9 : Type := Int32 × (Nat → Int32) × (Nat → Int32) × (Nat → Int32) × (Nat → Int32) × (Nat → Int32) × Int32 × Int32 × (Nat → Int32)
/-- a tick's outcome beside what it leaves alone -/
def wrp (bm sp ks gv se : Nat → Int32) (kk : Int32) (s : T9) : Int32 × StT := (s.1, (bm, sp, s.2.1, s.2.2.1, s.2.2.2.1, s.2.2.2.2.1, ks, s.2.2.2.2.2.1, gv, se, s.2.2.2.2.2.2.1, kk, s.2.2.2.2.2.2.2.1, Z0, Z0))
section TICK
variable {bm sp ph sg st wy ks nt gv se : Nat → Int32} {tk kk sk : Int32}
theorem goOn_cg {P P' : Nat → Int32} (h : ∀ i, i < 8 → P i = P' i) : f_X4_goOn sp ph sg st wy P = f_X4_goOn sp ph sg st wy P' := by
  unfold f_X4_goOn
  refine it_cg 0 8 (fun i a _ hi => ?_) 8 0 _ (by omega) (by omega)
  unfold L_X4_goOn_4
  rw [h i hi]
theorem pulls_at (p : Nat → Int32) {i : Nat} (hi : i < 8) : it (L_X4_tick_2 bm ph sg gv se) 0 8 p i = f_X4_pullOf bm ph sg gv se i :=
  (it_upd (f_X4_pullOf bm ph sg gv se) 8 0 p i).trans (if_pos (by omega))
/-- a tick in parts -/
theorem tick_eq (p : Nat → Int32) : wrp bm sp ks gv se kk (f_X4_tick bm sp ph sg st wy nt gv se tk sk p) = (fun (g : Int32 × (Nat → Int32) × (Nat → Int32) × (Nat → Int32) × (Nat → Int32)) => (g.1, (bm, sp, g.2.1, g.2.2.1, g.2.2.2.1, g.2.2.2.2, ks, f_X4_lookAtPairs bm g.2.1 g.2.2.1 nt se, gv, se, tk + (1 : Int32), kk, (if g.1 ≤ 0 then sk else sk + (1 : Int32)), Z0, Z0))) (f_X4_goOn sp ph sg st wy (it (L_X4_tick_2 bm ph sg gv se) 0 8 p)) := rfl
theorem tick_pl (p p' : Nat → Int32) : wrp bm sp ks gv se kk (f_X4_tick bm sp ph sg st wy nt gv se tk sk p) = wrp bm sp ks gv se kk (f_X4_tick bm sp ph sg st wy nt gv se tk sk p') := by
  rw [tick_eq, tick_eq, goOn_cg (P := it (L_X4_tick_2 bm ph sg gv se) 0 8 p) (P' := it (L_X4_tick_2 bm ph sg gv se) 0 8 p') (fun i hi => by rw [pulls_at p hi, pulls_at p' hi])]
end TICK
/-- a tick of a state -/
def tickZ (z : StT) : Int32 × StT := wrp (zbm z) (zsp z) (zks z) (zgv z) (zse z) (zkk z) (f_X4_tick (zbm z) (zsp z) (zph z) (zsg z) (zst z) (zwy z) (znt z) (zgv z) (zse z) (ztk z) (zsk z) Z0)
def stepZ (a : Int32 × StT) : Int32 × StT := (a.1 + (tickZ a.2).1, (tickZ a.2).2)
def tkn : Nat → Int32 × StT → Int32 × StT
  | 0, a => a
  | n + 1, a => tkn n (stepZ a)
/-- the state behind n ticks, and how many strikes there were in them -/
def tks (n : Nat) (z : StT) : StT := (tkn n ((0 : Int32), z)).2
def tkc (n : Nat) (z : StT) : Int32 := (tkn n ((0 : Int32), z)).1
theorem tkn_add (m : Nat) : ∀ (n : Nat) (a : Int32 × StT), tkn (n + m) a = tkn m (tkn n a)
  | 0, a => by rw [Nat.zero_add]; rfl
  | n + 1, a => by
    rw [show n + 1 + m = (n + m) + 1 by omega]
    exact tkn_add m n (stepZ a)
theorem tkn_off : ∀ (n : Nat) (s : Int32) (z : StT), tkn n (s, z) = (s + tkc n z, tks n z)
  | 0, s, z => by
    show (s, z) = (s + 0, z)
    rw [Int32.add_zero]
  | n + 1, s, z => by
    have h1 := tkn_off n (s + (tickZ z).1) (tickZ z).2
    have h2 := tkn_off n ((0 : Int32) + (tickZ z).1) (tickZ z).2
    have e1 : tkn (n + 1) (s, z) = tkn n (s + (tickZ z).1, (tickZ z).2) := rfl
    have e2 : tkc (n + 1) z = (tkn n ((0 : Int32) + (tickZ z).1, (tickZ z).2)).1 := rfl
    have e3 : tks (n + 1) z = (tkn n ((0 : Int32) + (tickZ z).1, (tickZ z).2)).2 := rfl
    rw [e1, h1, e2, e3, h2, Int32.zero_add, Int32.add_assoc]
theorem tks_0 (z : StT) : tks 0 z = z := rfl
theorem tkc_0 (z : StT) : tkc 0 z = 0 := rfl
theorem tks_s (n : Nat) (z : StT) : tks (n + 1) z = tks n (tickZ z).2 := by
  show (tkn n ((0 : Int32) + (tickZ z).1, (tickZ z).2)).2 = _
  rw [tkn_off]
theorem tkc_s (n : Nat) (z : StT) : tkc (n + 1) z = (tickZ z).1 + tkc n (tickZ z).2 := by
  show (tkn n ((0 : Int32) + (tickZ z).1, (tickZ z).2)).1 = _
  rw [tkn_off, Int32.zero_add]
theorem tks_add (n m : Nat) (z : StT) : tks (n + m) z = tks m (tks n z) := by
  show (tkn (n + m) ((0 : Int32), z)).2 = _
  rw [tkn_add, tkn_off n, tkn_off m]
theorem tkc_add (n m : Nat) (z : StT) : tkc (n + m) z = tkc n z + tkc m (tks n z) := by
  show (tkn (n + m) ((0 : Int32), z)).1 = _
  rw [tkn_add, tkn_off n, tkn_off m, Int32.zero_add]
section LETPASS
variable {bm sp ph sg st wy ks nt gv se : Nat → Int32} {tk kk sk : Int32}
theorem lp_step (i : Nat) (s : T9) : wrp bm sp ks gv se kk (L_X4_letPass_4 bm sp gv se i s) = stepZ (wrp bm sp ks gv se kk s) := by
  have h := tick_pl (bm := bm) (sp := sp) (ph := s.2.1) (sg := s.2.2.1) (st := s.2.2.2.1) (wy := s.2.2.2.2.1) (ks := ks) (nt := s.2.2.2.2.2.1) (gv := gv) (se := se) (tk := s.2.2.2.2.2.2.1) (kk := kk) (sk := s.2.2.2.2.2.2.2.1) s.2.2.2.2.2.2.2.2 Z0
  have e1 : stepZ (wrp bm sp ks gv se kk s) = (s.1 + (wrp bm sp ks gv se kk (f_X4_tick bm sp s.2.1 s.2.2.1 s.2.2.2.1 s.2.2.2.2.1 s.2.2.2.2.2.1 gv se s.2.2.2.2.2.2.1 s.2.2.2.2.2.2.2.1 Z0)).1, (wrp bm sp ks gv se kk (f_X4_tick bm sp s.2.1 s.2.2.1 s.2.2.2.1 s.2.2.2.2.1 s.2.2.2.2.2.1 gv se s.2.2.2.2.2.2.1 s.2.2.2.2.2.2.2.1 Z0)).2) := rfl
  rw [e1, ← h]
  rfl
theorem lp_it : ∀ (n i : Nat) (s : T9), wrp bm sp ks gv se kk (it (L_X4_letPass_4 bm sp gv se) i n s) = tkn n (wrp bm sp ks gv se kk s)
  | 0, i, s => by rw [it_0]; rfl
  | n + 1, i, s => by
    rw [it_s, lp_it n (i + 1), lp_step]
    rfl
theorem lp_eq (p : Nat → Int32) (n : Int32) : wrp bm sp ks gv se kk (f_X4_letPass bm sp ph sg st wy nt gv se tk sk p n) = (tkc n.toNatClampNeg (bm, sp, ph, sg, st, wy, ks, nt, gv, se, tk, kk, sk, Z0, Z0), tks n.toNatClampNeg (bm, sp, ph, sg, st, wy, ks, nt, gv, se, tk, kk, sk, Z0, Z0)) := by
  unfold f_X4_letPass
  rw [lp_it]
  show tkn n.toNatClampNeg ((0 : Int32), (bm, sp, ph, sg, st, wy, ks, nt, gv, se, tk, kk, sk, Z0, Z0)) = _
  rw [tkn_off, Int32.zero_add]
end LETPASS
/-! what is so of every state -/
/-- of one clock, at most b ticks and kicks in -/
def CI (b k : Nat) (ph sg st wy ks : Nat → Int32) : Prop :=
  (0 ≤ (ph k).toInt ∧ (ph k).toInt < 1000) ∧ (0 ≤ (sg k).toInt ∧ (sg k).toInt ≤ 99) ∧ (0 ≤ (st k).toInt ∧ (st k).toInt ≤ (b : Int)) ∧ (0 ≤ (wy k).toInt ∧ (wy k).toInt ≤ 110 * (b : Int)) ∧ (-(500 * (b : Int)) ≤ (ks k).toInt ∧ (ks k).toInt ≤ 500 * (b : Int)) ∧ ∃ c : Int, 100 * (k : Int) + (wy k).toInt + (ks k).toInt - (ph k).toInt = 1000 * c
theorem CI.mono {b b' k : Nat} {ph sg st wy ks : Nat → Int32} (h : CI b k ph sg st wy ks) (hb : b ≤ b') : CI b' k ph sg st wy ks := by
  obtain ⟨h1, h2, h3, h4, h5, h6⟩ := h
  exact ⟨h1, h2, by omega, by omega, by omega, h6⟩
/-- all strikes -/
def sum8 (f : Nat → Int32) : Int := (f 0).toInt + (f 1).toInt + (f 2).toInt + (f 3).toInt + (f 4).toInt + (f 5).toInt + (f 6).toInt + (f 7).toInt
theorem sum8_upd {f : Nat → Int32} {k : Nat} (hk : k < 8) (v : Int32) : sum8 (upd f k v) = sum8 f + (v.toInt - (f k).toInt) := by
  unfold sum8
  rcases lt8 hk with e | e | e | e | e | e | e | e <;> subst e <;> simp only [pk_us, pk_un (show (0 : Nat) ≠ 1 by decide), pk_un (show (0 : Nat) ≠ 2 by decide), pk_un (show (0 : Nat) ≠ 3 by decide), pk_un (show (0 : Nat) ≠ 4 by decide), pk_un (show (0 : Nat) ≠ 5 by decide), pk_un (show (0 : Nat) ≠ 6 by decide), pk_un (show (0 : Nat) ≠ 7 by decide), pk_un (show (1 : Nat) ≠ 0 by decide), pk_un (show (1 : Nat) ≠ 2 by decide), pk_un (show (1 : Nat) ≠ 3 by decide), pk_un (show (1 : Nat) ≠ 4 by decide), pk_un (show (1 : Nat) ≠ 5 by decide), pk_un (show (1 : Nat) ≠ 6 by decide), pk_un (show (1 : Nat) ≠ 7 by decide), pk_un (show (2 : Nat) ≠ 0 by decide), pk_un (show (2 : Nat) ≠ 1 by decide), pk_un (show (2 : Nat) ≠ 3 by decide), pk_un (show (2 : Nat) ≠ 4 by decide), pk_un (show (2 : Nat) ≠ 5 by decide), pk_un (show (2 : Nat) ≠ 6 by decide), pk_un (show (2 : Nat) ≠ 7 by decide), pk_un (show (3 : Nat) ≠ 0 by decide), pk_un (show (3 : Nat) ≠ 1 by decide), pk_un (show (3 : Nat) ≠ 2 by decide), pk_un (show (3 : Nat) ≠ 4 by decide), pk_un (show (3 : Nat) ≠ 5 by decide), pk_un (show (3 : Nat) ≠ 6 by decide), pk_un (show (3 : Nat) ≠ 7 by decide), pk_un (show (4 : Nat) ≠ 0 by decide), pk_un (show (4 : Nat) ≠ 1 by decide), pk_un (show (4 : Nat) ≠ 2 by decide), pk_un (show (4 : Nat) ≠ 3 by decide), pk_un (show (4 : Nat) ≠ 5 by decide), pk_un (show (4 : Nat) ≠ 6 by decide), pk_un (show (4 : Nat) ≠ 7 by decide), pk_un (show (5 : Nat) ≠ 0 by decide), pk_un (show (5 : Nat) ≠ 1 by decide), pk_un (show (5 : Nat) ≠ 2 by decide), pk_un (show (5 : Nat) ≠ 3 by decide), pk_un (show (5 : Nat) ≠ 4 by decide), pk_un (show (5 : Nat) ≠ 6 by decide), pk_un (show (5 : Nat) ≠ 7 by decide), pk_un (show (6 : Nat) ≠ 0 by decide), pk_un (show (6 : Nat) ≠ 1 by decide), pk_un (show (6 : Nat) ≠ 2 by decide), pk_un (show (6 : Nat) ≠ 3 by decide), pk_un (show (6 : Nat) ≠ 4 by decide), pk_un (show (6 : Nat) ≠ 5 by decide), pk_un (show (6 : Nat) ≠ 7 by decide), pk_un (show (7 : Nat) ≠ 0 by decide), pk_un (show (7 : Nat) ≠ 1 by decide), pk_un (show (7 : Nat) ≠ 2 by decide), pk_un (show (7 : Nat) ≠ 3 by decide), pk_un (show (7 : Nat) ≠ 4 by decide), pk_un (show (7 : Nat) ≠ 5 by decide), pk_un (show (7 : Nat) ≠ 6 by decide)] <;> omega
def IZ (b : Nat) (z : StT) : Prop :=
  (∀ k, k < 8 → vp_in (zbm z k) 3) ∧ (∀ k, k < 8 → 10 ≤ (zsp z k).toInt ∧ (zsp z k).toInt ≤ 60) ∧ (∀ k, k < 8 → CI b k (zph z) (zsg z) (zst z) (zwy z) (zks z)) ∧
  (∀ k o, k < 8 → o < 8 → znt z (k * 8 + o) = znt z (o * 8 + k)) ∧ (∀ i, i < 3 → 0 ≤ (zgv z i).toInt ∧ (zgv z i).toInt ≤ 20) ∧
  ((0 ≤ (zse z 0).toInt ∧ (zse z 0).toInt ≤ 50) ∧ (0 ≤ (zse z 1).toInt ∧ (zse z 1).toInt ≤ 200) ∧ (1 ≤ (zse z 2).toInt ∧ (zse z 2).toInt ≤ 50)) ∧
  ((0 ≤ (ztk z).toInt ∧ (ztk z).toInt ≤ (b : Int)) ∧ 0 ≤ (zsk z).toInt ∧ (zsk z).toInt ≤ (ztk z).toInt ∧ (zsk z).toInt ≤ sum8 (zst z))
theorem IZ.mono {b b' : Nat} {z : StT} (h : IZ b z) (hb : b ≤ b') : IZ b' z := by
  obtain ⟨h1, h2, h3, h4, h5, h6, h7⟩ := h
  exact ⟨h1, h2, fun k hk => (h3 k hk).mono hb, h4, h5, h6, ⟨h7.1.1, by omega⟩, h7.2⟩
/-- the pull of a clock keeps to setting 0 -/
theorem pull_rng (bm ph sg gv se : Nat → Int32) (h : 0 ≤ (se 0).toInt ∧ (se 0).toInt ≤ 50) (k : Nat) : -(se 0).toInt ≤ (f_X4_pullOf bm ph sg gv se k).toInt ∧ (f_X4_pullOf bm ph sg gv se k).toInt ≤ (se 0).toInt := by
  unfold f_X4_pullOf
  generalize it (L_X4_pullOf_29 bm ph sg gv k) 0 8 (0 : Int32) = v
  have hn : (-(se 0)).toInt = -(se 0).toInt := neg_toInt (by omega)
  have z0 : (0 : Int32).toInt = 0 := rfl
  have hX : (if v < se 0 then v else se 0).toInt ≤ (se 0).toInt := by
    split
    · rename_i c
      have c := Int32.lt_iff_toInt_lt.mp c
      omega
    · exact Int.le_refl _
  generalize (if v < se 0 then v else se 0) = X at hX ⊢
  split
  · split
    · split
      · rename_i c
        have c := Int32.lt_iff_toInt_lt.mp c
        omega
      · rw [hn]
        omega
    · omega
  · omega
theorem pull_no (bm ph sg gv se : Nat → Int32) {k : Nat} (h : f_X4_goes sg k = false) : f_X4_pullOf bm ph sg gv se k = 0 := by
  unfold f_X4_pullOf
  rw [if_neg (by rw [h]; decide)]
theorem goes_iff (sg : Nat → Int32) (k : Nat) : f_X4_goes sg k = true ↔ 0 < (sg k).toInt := by
  unfold f_X4_goes
  have z0 : (0 : Int32).toInt = 0 := rfl
  by_cases c : sg k ≤ 0
  · have c' := Int32.le_iff_toInt_le.mp c
    rw [if_pos c]
    constructor
    · intro q; cases q
    · intro q; omega
  · rw [if_neg c]
    refine ⟨fun _ => ?_, fun _ => rfl⟩
    have c' : ¬ (sg k).toInt ≤ (0 : Int32).toInt := fun q => c (Int32.le_iff_toInt_le.mpr q)
    omega
theorem g4p_eq (sp p4 ph sg st wy : Nat → Int32) (i : Nat) (n : Int32) : L_X4_goOn_4 sp p4 i (n, ph, sg, st, wy) = ((if f_X4_goes sg i = true then (if (f_X4_strikesBy ph sg st wy i (if (0 : Int32) < sp i + p4 i then sp i + p4 i else (0 : Int32))).1 = true then n + (1 : Int32) else n) else n), (if f_X4_goes sg i = true then (f_X4_strikesBy ph sg st wy i (if (0 : Int32) < sp i + p4 i then sp i + p4 i else (0 : Int32))).2.1 else ph), (if f_X4_goes sg i = true then (f_X4_strikesBy ph sg st wy i (if (0 : Int32) < sp i + p4 i then sp i + p4 i else (0 : Int32))).2.2.1 else sg), (if f_X4_goes sg i = true then (f_X4_strikesBy ph sg st wy i (if (0 : Int32) < sp i + p4 i then sp i + p4 i else (0 : Int32))).2.2.2.1 else st), (if f_X4_goes sg i = true then (f_X4_strikesBy ph sg st wy i (if (0 : Int32) < sp i + p4 i then sp i + p4 i else (0 : Int32))).2.2.2.2 else wy)) := rfl
/-- what the loop over the clocks holds -/
def GI (b : Nat) (ks : Nat → Int32) (n0 : Int) (i : Nat) (a : Int32 × (Nat → Int32) × (Nat → Int32) × (Nat → Int32) × (Nat → Int32)) : Prop :=
  (∀ k, k < 8 → CI (if k < i then b + 1 else b) k a.2.1 a.2.2.1 a.2.2.2.1 a.2.2.2.2 ks) ∧ (0 ≤ a.1.toInt ∧ a.1.toInt ≤ (i : Int)) ∧ sum8 a.2.2.2.1 = n0 + a.1.toInt
set_option maxHeartbeats 4000000 in
theorem GI_step {sp p4 ks : Nat → Int32} {b : Nat} (hb : b ≤ 1000000) {n0 : Int} {i : Nat} (hi : i < 8) (hs : 10 ≤ (sp i).toInt ∧ (sp i).toInt ≤ 60) (hpr : -50 ≤ (p4 i).toInt ∧ (p4 i).toInt ≤ 50) (n : Int32) (ph sg st wy : Nat → Int32) (h : GI b ks n0 i (n, ph, sg, st, wy)) : GI b ks n0 (i + 1) (L_X4_goOn_4 sp p4 i (n, ph, sg, st, wy)) := by
  obtain ⟨h1, h2, h3⟩ := h
  have h1 : ∀ k, k < 8 → CI (if k < i then b + 1 else b) k ph sg st wy ks := h1
  have h2 : 0 ≤ n.toInt ∧ n.toInt ≤ (i : Int) := h2
  have h3 : sum8 st = n0 + n.toInt := h3
  have hci : CI b i ph sg st wy ks := by
    have := h1 i hi
    rw [if_neg (by omega)] at this
    exact this
  have hoth : ∀ k, k < 8 → k ≠ i → CI (if k < i + 1 then b + 1 else b) k ph sg st wy ks := fun k hk hne => by
    have := h1 k hk
    by_cases c : k < i
    · rw [if_pos c] at this
      rw [if_pos (by omega)]
      exact this
    · rw [if_neg c] at this
      rw [if_neg (by omega)]
      exact this
  have hnew : (if i < i + 1 then b + 1 else b) = b + 1 := if_pos (by omega)
  rw [g4p_eq]
  by_cases g : f_X4_goes sg i = true
  · rw [if_pos g, if_pos g, if_pos g, if_pos g, if_pos g]
    have hg := (goes_iff sg i).mp g
    obtain ⟨c1, c2, c3, c4, c5, c6, c7⟩ := hci
    have ex : (sp i + p4 i).toInt = (sp i).toInt + (p4 i).toInt := add_toInt (by omega) (by omega)
    have z0 : (0 : Int32).toInt = 0 := rfl
    have hw : 0 ≤ (if (0 : Int32) < sp i + p4 i then sp i + p4 i else (0 : Int32)).toInt ∧ (if (0 : Int32) < sp i + p4 i then sp i + p4 i else (0 : Int32)).toInt ≤ 110 := by
      split
      · rename_i c
        have c := Int32.lt_iff_toInt_lt.mp c
        omega
      · omega
    generalize (if (0 : Int32) < sp i + p4 i then sp i + p4 i else (0 : Int32)) = w at hw ⊢
    unfold f_X4_strikesBy
    rw [show upd ph i (ph i + w) i = ph i + w from pk_us]
    have epi : (ph i + w).toInt = (ph i).toInt + w.toInt := add_toInt (by omega) (by omega)
    have ewi : (wy i + w).toInt = (wy i).toInt + w.toInt := add_toInt (by omega) (by omega)
    have z3 : (1000 : Int32).toInt = 1000 := rfl
    have z1 : (1 : Int32).toInt = 1 := rfl
    by_cases c : (1000 : Int32) ≤ ph i + w
    · have c' := Int32.le_iff_toInt_le.mp c
      rw [if_pos c]
      have e1 : (ph i + w - 1000).toInt = (ph i).toInt + w.toInt - 1000 := by rw [sub_toInt (by omega) (by omega)]; omega
      have e2 : (sg i - 1).toInt = (sg i).toInt - 1 := by rw [sub_toInt (by omega) (by omega)]; omega
      have e3 : (st i + 1).toInt = (st i).toInt + 1 := by rw [add_toInt (by omega) (by omega)]; omega
      have e4 : (n + 1).toInt = n.toInt + 1 := by rw [add_toInt (by omega) (by omega)]; omega
      refine ⟨fun k hk => ?_, ?_, ?_⟩
      · show CI _ k (upd (upd ph i (ph i + w)) i (ph i + w - 1000)) (upd sg i (sg i - 1)) (upd st i (st i + 1)) (upd wy i (wy i + w)) ks
        by_cases e : k = i
        · subst e
          rw [hnew]
          unfold CI
          rw [pk_us, pk_us, pk_us, pk_us, e1, e2, e3, ewi]
          refine ⟨by omega, by omega, by omega, by omega, by omega, c6 + 1, by omega⟩
        · have := hoth k hk e
          unfold CI at this ⊢
          rw [pk_un e, pk_un e, pk_un e, pk_un e, pk_un e]
          exact this
      · show 0 ≤ (n + 1).toInt ∧ (n + 1).toInt ≤ ((i + 1 : Nat) : Int)
        omega
      · show sum8 (upd st i (st i + 1)) = n0 + (n + 1).toInt
        rw [sum8_upd hi]
        omega
    · have c' : ¬ (1000 : Int32).toInt ≤ (ph i + w).toInt := fun q => c (Int32.le_iff_toInt_le.mpr q)
      rw [if_neg c]
      refine ⟨fun k hk => ?_, ?_, h3⟩
      · show CI _ k (upd ph i (ph i + w)) sg st (upd wy i (wy i + w)) ks
        by_cases e : k = i
        · subst e
          rw [hnew]
          unfold CI
          rw [pk_us, pk_us, epi, ewi]
          refine ⟨by omega, by omega, by omega, by omega, by omega, c6, by omega⟩
        · have := hoth k hk e
          unfold CI at this ⊢
          rw [pk_un e, pk_un e]
          exact this
      · show 0 ≤ n.toInt ∧ n.toInt ≤ ((i + 1 : Nat) : Int)
        omega
  · rw [if_neg g, if_neg g, if_neg g, if_neg g, if_neg g]
    refine ⟨fun k hk => ?_, ?_, h3⟩
    · show CI _ k ph sg st wy ks
      by_cases e : k = i
      · subst e
        rw [hnew]
        exact hci.mono (by omega)
      · exact hoth k hk e
    · show 0 ≤ n.toInt ∧ n.toInt ≤ ((i + 1 : Nat) : Int)
      omega
theorem it_invI {α : Type} {f : Nat → α → α} {P : Nat → α → Prop} (N : Nat) (hs : ∀ i a, i < N → P i a → P (i + 1) (f i a)) : ∀ (n i : Nat) (a : α), i + n ≤ N → P i a → P (i + n) (it f i n a)
  | 0, i, a, _, h => by rw [it_0]; exact h
  | n + 1, i, a, hi, h => by
    rw [it_s, show i + (n + 1) = i + 1 + n by omega]
    exact it_invI N hs n (i + 1) _ (by omega) (hs i a (by omega) h)
theorem GI_all {sp ph sg st wy p4 ks : Nat → Int32} {b : Nat} (hb : b ≤ 1000000) (hs : ∀ i, i < 8 → 10 ≤ (sp i).toInt ∧ (sp i).toInt ≤ 60) (hpr : ∀ i, i < 8 → -50 ≤ (p4 i).toInt ∧ (p4 i).toInt ≤ 50) (h : ∀ k, k < 8 → CI b k ph sg st wy ks) : GI b ks (sum8 st) 8 (f_X4_goOn sp ph sg st wy p4) := by
  unfold f_X4_goOn
  refine it_invI (P := fun i a => GI b ks (sum8 st) i a) 8 (fun i a hi hp => ?_) 8 0 _ (by omega) ⟨fun k hk => ?_, ⟨Int.le_refl 0, Int.le_refl 0⟩, ?_⟩
  · obtain ⟨n, aph, asg, ast, awy⟩ := a
    exact GI_step hb hi (hs i hi) (hpr i hi) n aph asg ast awy hp
  · rw [if_neg (by omega)]
    exact h k hk
  · show sum8 st = sum8 st + 0
    omega
/-- near ticks are the same from both sides -/
def NS (nt : Nat → Int32) : Prop := ∀ k o, k < 8 → o < 8 → nt (k * 8 + o) = nt (o * 8 + k)
theorem NS_set {nt : Nat → Int32} (h : NS nt) {i j : Nat} (hi : i < 8) (hj : j < 8) (v : Int32) : NS (f_X4_setTicksNear nt i j v) := by
  intro k o hk ho
  unfold f_X4_setTicksNear
  by_cases c1 : k = i ∧ o = j
  · obtain ⟨e1, e2⟩ := c1
    subst e1
    subst e2
    rw [show upd (upd nt (k * 8 + o) v) (o * 8 + k) v (o * 8 + k) = v from pk_us]
    by_cases e : k * 8 + o = o * 8 + k
    · rw [e, pk_us]
    · rw [pk_un e, pk_us]
  · by_cases c2 : k = j ∧ o = i
    · obtain ⟨e1, e2⟩ := c2
      subst e1
      subst e2
      rw [show upd (upd nt (o * 8 + k) v) (k * 8 + o) v (k * 8 + o) = v from pk_us]
      by_cases e : o * 8 + k = k * 8 + o
      · rw [e, pk_us]
      · rw [pk_un e, pk_us]
    · rw [pk_un (by omega), pk_un (by omega), pk_un (by omega), pk_un (by omega)]
      exact h k o hk ho
theorem NS_look {bm ph sg nt se : Nat → Int32} (h : NS nt) : NS (f_X4_lookAtPairs bm ph sg nt se) := by
  unfold f_X4_lookAtPairs
  refine it_invI (P := fun _ a => NS a) 8 (fun i a hi ha => ?_) 8 0 nt (by omega) h
  unfold L_X4_lookAtPairs_2
  refine it_invI (P := fun _ a => NS a) 8 (fun j a hj ha => ?_) (8 - (i + 1)) (i + 1) a (by omega) ha
  unfold L_X4_lookAtPairs_12
  exact NS_set ha hi hj _
set_option maxHeartbeats 4000000 in
/-- a tick of a state that is so -/
theorem IZ_tick {b : Nat} {z : StT} (hb : b ≤ 1000000) (h : IZ b z) : IZ (b + 1) (tickZ z).2 ∧ (0 ≤ (tickZ z).1.toInt ∧ (tickZ z).1.toInt ≤ 8) ∧ sum8 (zst (tickZ z).2) = sum8 (zst z) + (tickZ z).1.toInt := by
  obtain ⟨bm, sp, ph, sg, st, wy, ks, nt, gv, se, tk, kk, sk, pl, ld⟩ := z
  obtain ⟨h1, h2, h3, h4, h5, h6, h7⟩ := h
  have ht : tickZ (bm, sp, ph, sg, st, wy, ks, nt, gv, se, tk, kk, sk, pl, ld) = (fun (g : Int32 × (Nat → Int32) × (Nat → Int32) × (Nat → Int32) × (Nat → Int32)) => (g.1, (bm, sp, g.2.1, g.2.2.1, g.2.2.2.1, g.2.2.2.2, ks, f_X4_lookAtPairs bm g.2.1 g.2.2.1 nt se, gv, se, tk + (1 : Int32), kk, (if g.1 ≤ 0 then sk else sk + (1 : Int32)), Z0, Z0))) (f_X4_goOn sp ph sg st wy (it (L_X4_tick_2 bm ph sg gv se) 0 8 Z0)) := rfl
  rw [ht]
  have hg := GI_all (sp := sp) (ph := ph) (sg := sg) (st := st) (wy := wy) (p4 := it (L_X4_tick_2 bm ph sg gv se) 0 8 Z0) (ks := ks) hb h2 (fun i hi => by
    rw [pulls_at Z0 hi]
    have := pull_rng bm ph sg gv se h6.1 i
    have h60 : 0 ≤ (se 0).toInt ∧ (se 0).toInt ≤ 50 := h6.1
    omega) h3
  generalize f_X4_goOn sp ph sg st wy (it (L_X4_tick_2 bm ph sg gv se) 0 8 Z0) = g at hg
  obtain ⟨g1, gph, gsg, gst, gwy⟩ := g
  obtain ⟨q1, q2, q3⟩ := hg
  have q2 : 0 ≤ g1.toInt ∧ g1.toInt ≤ 8 := q2
  have q3 : sum8 gst = sum8 st + g1.toInt := q3
  have h7 : (0 ≤ tk.toInt ∧ tk.toInt ≤ (b : Int)) ∧ 0 ≤ sk.toInt ∧ sk.toInt ≤ tk.toInt ∧ sk.toInt ≤ sum8 st := h7
  have z0 : (0 : Int32).toInt = 0 := rfl
  have z1 : (1 : Int32).toInt = 1 := rfl
  have et : (tk + 1).toInt = tk.toInt + 1 := by rw [add_toInt (by omega) (by omega)]; omega
  have es : (sk + 1).toInt = sk.toInt + 1 := by rw [add_toInt (by omega) (by omega)]; omega
  refine ⟨⟨h1, h2, fun k hk => ?_, NS_look h4, h5, h6, ?_⟩, q2, q3⟩
  · have := q1 k hk
    rw [if_pos hk] at this
    exact this
  · show (0 ≤ (tk + 1).toInt ∧ (tk + 1).toInt ≤ ((b + 1 : Nat) : Int)) ∧ 0 ≤ (if g1 ≤ 0 then sk else sk + 1).toInt ∧ (if g1 ≤ 0 then sk else sk + 1).toInt ≤ (tk + 1).toInt ∧ (if g1 ≤ 0 then sk else sk + 1).toInt ≤ sum8 gst
    by_cases c : g1 ≤ 0
    · rw [if_pos c]
      omega
    · rw [if_neg c]
      have c' : ¬ g1.toInt ≤ (0 : Int32).toInt := fun q => c (Int32.le_iff_toInt_le.mpr q)
      omega
theorem IZ_tks {z : StT} : ∀ (n b : Nat), b + n ≤ 1000000 → IZ b z → IZ (b + n) (tks n z) ∧ (0 ≤ (tkc n z).toInt ∧ (tkc n z).toInt ≤ 8 * (n : Int)) ∧ sum8 (zst (tks n z)) = sum8 (zst z) + (tkc n z).toInt := by
  intro n
  induction n generalizing z with
  | zero => intro b _ h; exact ⟨h, ⟨Int.le_refl 0, Int.le_refl 0⟩, by show sum8 (zst z) = sum8 (zst z) + 0; omega⟩
  | succ n ih =>
    intro b hb h
    obtain ⟨t1, t2, t3⟩ := IZ_tick (by omega) h
    obtain ⟨i1, i2, i3⟩ := ih (z := (tickZ z).2) (b + 1) (by omega) t1
    rw [tks_s, tkc_s]
    have e : ((tickZ z).1 + tkc n (tickZ z).2).toInt = (tickZ z).1.toInt + (tkc n (tickZ z).2).toInt := add_toInt (by omega) (by omega)
    refine ⟨by rw [show b + (n + 1) = b + 1 + n by omega]; exact i1, by omega, by omega⟩
