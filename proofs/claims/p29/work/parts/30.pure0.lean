theorem bN_le (b : Bool) : bN b ≤ 1 := by cases b <;> decide
def rmod (x : Int32) : Int32 := (if 0 ≤ (x - x / (1000 : Int32) * (1000 : Int32)) then (x - x / (1000 : Int32) * (1000 : Int32)) else ((x - x / (1000 : Int32) * (1000 : Int32)) + (1000 : Int32)))
set_option maxRecDepth 100000 in
theorem fm_key : ∀ n : Nat, n < 2000 → f_J9_floorMod_7cf53 (Int32.ofInt ((n : Int) - 500)) 1000 = rmod (Int32.ofInt ((n : Int) - 500)) ∧ 0 ≤ (rmod (Int32.ofInt ((n : Int) - 500))).toInt ∧ (rmod (Int32.ofInt ((n : Int) - 500))).toInt < 1000 := by decide +kernel
theorem fm_eq {x : Int32} (h1 : -500 ≤ x.toInt) (h2 : x.toInt < 1500) : f_J9_floorMod_7cf53 x 1000 = rmod x ∧ 0 ≤ (rmod x).toInt ∧ (rmod x).toInt < 1000 := by
  have h := fm_key (x.toInt + 500).toNat (by omega)
  have e : (((x.toInt + 500).toNat : Int) - 500) = x.toInt := by omega
  rw [e, Int32.ofInt_toInt] at h
  exact h
theorem add_toInt {a b : Int32} (h1 : -2147483648 ≤ a.toInt + b.toInt) (h2 : a.toInt + b.toInt < 2147483648) : (a + b).toInt = a.toInt + b.toInt := by
  rw [Int32.toInt_add]
  exact Int.bmod_eq_of_le (by omega) (by omega)
theorem it_rel {α β : Type} {f : Nat → α → α} {g : Nat → β → β} {P : α → β → Prop} (N : Nat) (hs : ∀ i a b, i < N → P a b → P (f i a) (g i b)) : ∀ (n i : Nat) (a : α) (b : β), i + n ≤ N → P a b → P (it f i n a) (it g i n b)
  | 0, i, a, b, _, h => by rw [it_0, it_0]; exact h
  | n + 1, i, a, b, hi, h => by
    rw [it_s, it_s]
    exact it_rel N hs n (i + 1) _ _ (by omega) (hs i a b (by omega) h)

theorem it_relB {α β : Type} {f : Nat → α → α} {g : Nat → β → β} {P : α → β → Prop} (i0 N : Nat) (hs : ∀ i a b, i0 ≤ i → i < N → P a b → P (f i a) (g i b)) : ∀ (n i : Nat) (a : α) (b : β), i0 ≤ i → i + n ≤ N → P a b → P (it f i n a) (it g i n b)
  | 0, i, a, b, _, _, h => by rw [it_0, it_0]; exact h
  | n + 1, i, a, b, h0, hi, h => by
    rw [it_s, it_s]
    exact it_relB i0 N hs n (i + 1) _ _ (by omega) (by omega) (hs i a b h0 (by omega) h)
theorem it_cg {α : Type} {f g : Nat → α → α} (i0 N : Nat) (hs : ∀ i a, i0 ≤ i → i < N → f i a = g i a) (n i : Nat) (a : α) (h0 : i0 ≤ i) (hi : i + n ≤ N) : it f i n a = it g i n a :=
  it_relB (P := fun a b => a = b) i0 N (fun i a b h0 hi h => by rw [h]; exact hs i b h0 hi) n i a a h0 hi rfl
theorem it_upd (g : Nat → Int32) : ∀ (n i : Nat) (s : Nat → Int32) (j : Nat), it (fun k r => upd r k (g k)) i n s j = if i ≤ j ∧ j < i + n then g j else s j := by
  intro n
  induction n with
  | zero => intro i s j; rw [it_0, if_neg (by omega)]
  | succ n ih =>
    intro i s j
    rw [it_s, ih]
    by_cases h : i + 1 ≤ j ∧ j < i + 1 + n
    · rw [if_pos h, if_pos (by omega)]
    · rw [if_neg h]
      by_cases h2 : j = i
      · subst h2
        rw [pk_us, if_pos (by omega)]
      · rw [pk_un h2, if_neg (by omega)]
theorem neg_toInt {x : Int32} (h : -2147483648 < x.toInt) : (-x).toInt = -x.toInt := by
  have := x.toInt_lt
  rw [Int32.toInt_neg]
  exact Int.bmod_eq_of_le (by omega) (by omega)
theorem sub_toInt {a b : Int32} (h1 : -2147483648 ≤ a.toInt - b.toInt) (h2 : a.toInt - b.toInt < 2147483648) : (a - b).toInt = a.toInt - b.toInt := by
  rw [Int32.toInt_sub]
  exact Int.bmod_eq_of_le (by omega) (by omega)
/-- what the numbers of a state are -/
def Rng (bm sp ph se : Nat → Int32) : Prop :=
  (∀ k, k < 8 → vp_in (bm k) 3) ∧ (∀ k, k < 8 → 10 ≤ (sp k).toInt ∧ (sp k).toInt ≤ 60) ∧ (∀ k, k < 8 → 0 ≤ (ph k).toInt ∧ (ph k).toInt < 1000) ∧ (0 ≤ (se 0).toInt ∧ (se 0).toInt ≤ 50)
section LOOK
variable {bm sp ph sg st wy ks nt gv se : Nat → Int32} {tk kk sk : Int32} {pl ld : Nat → Int32} {row : Nat → Int32}
theorem gap_toInt (hp : ∀ k, k < 8 → 0 ≤ (ph k).toInt ∧ (ph k).toInt < 1000) {k o : Nat} (hk : k < 8) (ho : o < 8) : (f_X4_gapFrom ph k o).toInt = if (ph o).toInt - (ph k).toInt < 500 then (if -500 ≤ (ph o).toInt - (ph k).toInt then (ph o).toInt - (ph k).toInt else (ph o).toInt - (ph k).toInt + 1000) else (ph o).toInt - (ph k).toInt - 1000 := by
  have h1 := hp k hk
  have h2 := hp o ho
  unfold f_X4_gapFrom
  have e : (ph o - ph k).toInt = (ph o).toInt - (ph k).toInt := sub_toInt (by omega) (by omega)
  have z1 : (500 : Int32).toInt = 500 := rfl
  have z2 : (-500 : Int32).toInt = -500 := rfl
  have z3 : (1000 : Int32).toInt = 1000 := rfl
  by_cases c1 : (ph o).toInt - (ph k).toInt < 500
  · rw [if_pos c1, if_pos (Int32.lt_iff_toInt_lt.mpr (by omega))]
    by_cases c2 : -500 ≤ (ph o).toInt - (ph k).toInt
    · rw [if_pos c2, if_pos (Int32.le_iff_toInt_le.mpr (by omega))]
      exact e
    · rw [if_neg c2, if_neg (fun q => by have := Int32.le_iff_toInt_le.mp q; omega), add_toInt (by omega) (by omega), e, z3]
  · rw [if_neg c1, if_neg (fun q => by have := Int32.lt_iff_toInt_lt.mp q; omega), sub_toInt (by omega) (by omega), e, z3]
theorem gap_ge (hp : ∀ k, k < 8 → 0 ≤ (ph k).toInt ∧ (ph k).toInt < 1000) {k o : Nat} (hk : k < 8) (ho : o < 8) : -500 ≤ (f_X4_gapFrom ph k o).toInt ∧ (f_X4_gapFrom ph k o).toInt < 500 := by
  have h1 := hp k hk
  have h2 := hp o ho
  rw [gap_toInt hp hk ho]
  split
  · split <;> omega
  · omega
/-- a gap without its sign -/
theorem abs_toInt {g : Int32} (h : -2147483648 < g.toInt) : (if 0 ≤ g then g else 0 - g).toInt = if 0 ≤ g.toInt then g.toInt else -g.toInt := by
  have z0 : (0 : Int32).toInt = 0 := rfl
  by_cases c : 0 ≤ g.toInt
  · rw [if_pos c, if_pos (Int32.le_iff_toInt_le.mpr (by omega))]
  · rw [if_neg c, if_neg (fun q => by have := Int32.le_iff_toInt_le.mp q; omega), Int32.zero_sub, neg_toInt h]
theorem abs_sym (hp : ∀ k, k < 8 → 0 ≤ (ph k).toInt ∧ (ph k).toInt < 1000) {k o : Nat} (hk : k < 8) (ho : o < 8) : (if 0 ≤ f_X4_gapFrom ph k o then f_X4_gapFrom ph k o else 0 - f_X4_gapFrom ph k o) = (if 0 ≤ f_X4_gapFrom ph o k then f_X4_gapFrom ph o k else 0 - f_X4_gapFrom ph o k) := by
  have g1 := gap_ge hp hk ho
  have g2 := gap_ge hp ho hk
  have h1 := hp k hk
  have h2 := hp o ho
  apply Int32.toInt_inj.mp
  rw [abs_toInt (by omega), abs_toInt (by omega), gap_toInt hp hk ho, gap_toInt hp ho hk]
  repeat' split
  all_goals omega
end LOOK


def Bt (a : Int32) (k : Nat) : Bool := a.toBitVec.getLsbD k
theorem bt_or (a b : Int32) (k : Nat) : Bt (a ||| b) k = (Bt a k || Bt b k) := by
  unfold Bt
  rw [Int32.toBitVec_or, BitVec.getLsbD_or]
theorem bt_and (a b : Int32) (k : Nat) : Bt (a &&& b) k = (Bt a k && Bt b k) := by
  unfold Bt
  rw [Int32.toBitVec_and, BitVec.getLsbD_and]
theorem bt_0 (k : Nat) : Bt 0 k = false := by
  show (0#32).getLsbD k = false
  exact BitVec.getLsbD_zero
theorem lt8 {i : Nat} (h : i < 8) : i = 0 ∨ i = 1 ∨ i = 2 ∨ i = 3 ∨ i = 4 ∨ i = 5 ∨ i = 6 ∨ i = 7 := by omega
theorem one_bv {i : Nat} (h : i < 8) : ((1 : Int32) <<< ((nI i) &&& 31)).toBitVec = BitVec.twoPow 32 i := by
  rcases lt8 h with e | e | e | e | e | e | e | e <;> (subst e; decide +kernel)
theorem bt_one {i : Nat} (h : i < 8) (k : Nat) : Bt ((1 : Int32) <<< ((nI i) &&& 31)) k = decide (k = i) := by
  unfold Bt
  rw [one_bv h, BitVec.getLsbD_twoPow]
  by_cases e : k = i
  · subst e
    simp
    omega
  · have e2 : ¬ i = k := fun q => e q.symm
    simp [e, e2]
theorem bt_ext {a b : Int32} (h : ∀ k, Bt a k = Bt b k) : a = b := Int32.toBitVec_inj.mp (BitVec.eq_of_getLsbD_eq (fun i _ => h i))
theorem isIn_bt (a : Int32) {k : Nat} (h : k < 8) : f_X4_isIn a k = Bt a k := by
  unfold f_X4_isIn
  have e : (a &&& ((1 : Int32) <<< ((nI k) &&& 31))).toBitVec = if Bt a k = true then BitVec.twoPow 32 k else 0#32 := by
    rw [Int32.toBitVec_and, one_bv h]
    exact BitVec.and_twoPow a.toBitVec k
  by_cases c : Bt a k = true
  · rw [if_pos c] at e
    rw [c, if_neg]
    intro z
    rw [z] at e
    have : (BitVec.twoPow 32 k) ≠ (0 : Int32).toBitVec := by
      rcases lt8 h with e | e | e | e | e | e | e | e <;> (subst e; decide +kernel)
    exact this e.symm
  · rw [if_neg c] at e
    rw [if_pos (Int32.toBitVec_inj.mp e)]
    cases hb : Bt a k
    · rfl
    · exact absurd hb c
/-- a mask made bit by bit -/
theorem bt_it (c : Nat → Bool) : ∀ (n i : Nat) (s : Int32) (j : Nat), i + n ≤ 8 → Bt (it (fun k r => r ||| (if c k = true then ((1 : Int32) <<< ((nI k) &&& 31)) else (0 : Int32))) i n s) j = (Bt s j || (decide (i ≤ j ∧ j < i + n) && c j)) := by
  intro n
  induction n with
  | zero =>
    intro i s j _
    rw [it_0, decide_eq_false (by omega)]
    simp
  | succ n ih =>
    intro i s j h
    rw [it_s, ih (i + 1) _ j (by omega), bt_or]
    by_cases ci : c i = true
    · rw [if_pos ci, bt_one (by omega)]
      by_cases e : j = i
      · subst e
        rw [ci, decide_eq_true (show j = j from rfl), decide_eq_true (show j ≤ j ∧ j < j + (n + 1) by omega)]
        simp
      · rw [decide_eq_false e, Bool.or_false]
        congr 2
        exact decide_eq_decide.mpr (by omega)
    · rw [if_neg ci, bt_0, Bool.or_false]
      by_cases e : j = i
      · subst e
        have cf : c j = false := by cases hc : c j; rfl; exact absurd hc ci
        rw [cf, Bool.and_false, Bool.and_false]
      · congr 2
        exact decide_eq_decide.mpr (by omega)
/-- the same where a place that isn't taken is passed by -/
theorem bt_it2 (c : Nat → Bool) (n i : Nat) (s : Int32) (j : Nat) (h : i + n ≤ 8) : Bt (it (fun k r => if c k = true then (r ||| ((1 : Int32) <<< ((nI k) &&& 31))) else r) i n s) j = (Bt s j || (decide (i ≤ j ∧ j < i + n) && c j)) := by
  rw [← bt_it c n i s j h]
  congr 1
  refine it_cg 0 8 (fun k a _ _ => ?_) n i s (by omega) (by omega)
  by_cases ck : c k = true
  · rw [if_pos ck, if_pos ck]
  · rw [if_neg ck, if_neg ck, Int32.or_zero]
/-- how many of the places i .. are taken -/
def cnt (B : Nat → Bool) : Nat → Nat → Nat
  | _, 0 => 0
  | i, n + 1 => bN (B i) + cnt B (i + 1) n
theorem cnt_le (B : Nat → Bool) : ∀ n i, cnt B i n ≤ n := by
  intro n
  induction n with
  | zero => intro i; exact Nat.le_refl 0
  | succ n ih =>
    intro i
    have h1 := ih (i + 1)
    have h2 := bN_le (B i)
    show bN (B i) + cnt B (i + 1) n ≤ n + 1
    omega
theorem cnt_all {B : Nat → Bool} : ∀ n i, cnt B i n = n → ∀ x, i ≤ x → x < i + n → B x = true := by
  intro n
  induction n with
  | zero => intro i _ x _ _; omega
  | succ n ih =>
    intro i h x hx hx2
    have h : bN (B i) + cnt B (i + 1) n = n + 1 := h
    have h1 := cnt_le B n (i + 1)
    have h2 := bN_le (B i)
    by_cases e : x = i
    · subst e
      cases hb : B x
      · rw [hb] at h
        have h : 0 + cnt B (x + 1) n = n + 1 := h
        omega
      · rfl
    · exact ih (i + 1) (by omega) x (by omega) (by omega)
theorem cnt_mono {B C : Nat → Bool} : ∀ n i, (∀ x, i ≤ x → x < i + n → B x = true → C x = true) → cnt B i n ≤ cnt C i n := by
  intro n
  induction n with
  | zero => intro i _; exact Nat.le_refl 0
  | succ n ih =>
    intro i h
    have h1 := ih (i + 1) (fun x a b => h x (by omega) (by omega))
    have h2 : bN (B i) ≤ bN (C i) := by
      cases hb : B i
      · exact Nat.zero_le _
      · rw [h i (by omega) (by omega) hb]
        exact Nat.le_refl _
    show bN (B i) + cnt B (i + 1) n ≤ bN (C i) + cnt C (i + 1) n
    omega
theorem cnt_lt {B C : Nat → Bool} (y : Nat) (hB : B y = false) (hC : C y = true) : ∀ n i, i ≤ y → y < i + n → (∀ x, i ≤ x → x < i + n → B x = true → C x = true) → cnt B i n + 1 ≤ cnt C i n := by
  intro n
  induction n with
  | zero => intro i _ _ _; omega
  | succ n ih =>
    intro i h1 h2 h
    show bN (B i) + cnt B (i + 1) n + 1 ≤ bN (C i) + cnt C (i + 1) n
    by_cases e : y = i
    · subst e
      have g := cnt_mono (B := B) (C := C) n (y + 1) (fun x a b => h x (by omega) (by omega))
      rw [hB, hC]
      show 0 + cnt B (y + 1) n + 1 ≤ 1 + cnt C (y + 1) n
      omega
    · have g := ih (i + 1) (by omega) (by omega) (fun x a b => h x (by omega) (by omega))
      have h2 : bN (B i) ≤ bN (C i) := by
        cases hb : B i
        · exact Nat.zero_le _
        · rw [h i (by omega) (by omega) hb]
          exact Nat.le_refl _
      omega
theorem cnt_cg {B C : Nat → Bool} (n i : Nat) (h : ∀ x, i ≤ x → x < i + n → B x = C x) : cnt B i n = cnt C i n :=
  Nat.le_antisymm (cnt_mono n i (fun x a b q => by rw [← h x a b]; exact q)) (cnt_mono n i (fun x a b q => by rw [h x a b]; exact q))
theorem cnt_drop {B C : Nat → Bool} (y : Nat) (hB : B y = true) (hC : C y = false) : ∀ n i, i ≤ y → y < i + n → (∀ x, i ≤ x → x < i + n → x ≠ y → B x = C x) → cnt C i n + 1 = cnt B i n := by
  intro n
  induction n with
  | zero => intro i _ _ _; omega
  | succ n ih =>
    intro i h1 h2 h
    show bN (C i) + cnt C (i + 1) n + 1 = bN (B i) + cnt B (i + 1) n
    by_cases e : y = i
    · subst e
      have g := cnt_cg (B := B) (C := C) n (y + 1) (fun x a b => h x (by omega) (by omega) (by omega))
      rw [hB, hC, g]
      show 0 + cnt C (y + 1) n + 1 = 1 + cnt C (y + 1) n
      omega
    · have g := ih (i + 1) (by omega) (by omega) (fun x a b => h x (by omega) (by omega))
      rw [h i (by omega) (by omega) (fun q => e q.symm)]
      omega
/-- a sum over places is how many are taken -/
theorem it_cnt (B : Nat → Bool) : ∀ (n i c : Nat), it (fun k (r : Int32) => r + bI (B k)) i n (nI c) = nI (c + cnt B i n) := by
  intro n
  induction n with
  | zero => intro i c; rw [it_0]; rfl
  | succ n ih =>
    intro i c
    rw [it_s, ← nI_bN, nI_add, ih]
    show nI (c + bN (B i) + cnt B (i + 1) n) = nI (c + (bN (B i) + cnt B (i + 1) n))
    rw [Nat.add_assoc]
set_option maxRecDepth 100000 in
theorem bc_key : ∀ n : Nat, n < 256 → f_J6_bitCount_0f7a4 (nI n) = nI (cnt (fun k => n.testBit k) 0 8) := by decide +kernel
theorem bc_eq {m : Int32} (h : ∀ k, 8 ≤ k → Bt m k = false) : f_J6_bitCount_0f7a4 m = nI (cnt (Bt m) 0 8) := by
  have hl : m.toBitVec.toNat < 256 := Nat.lt_pow_two_of_testBit (n := 8) _ (fun i hi => by rw [BitVec.testBit_toNat]; exact h i hi)
  have e : m = nI m.toBitVec.toNat := by
    apply Int32.toBitVec_inj.mp
    show m.toBitVec = (Int32.ofNat m.toBitVec.toNat).toBitVec
    rw [Int32.toBitVec_ofNat', BitVec.ofNat_toNat, BitVec.setWidth_eq]
  have h2 := bc_key m.toBitVec.toNat hl
  rw [← e] at h2
  exact h2


def Conn (A : Nat → Nat → Bool) (a b : Nat) : Prop := ∀ S : Nat → Prop, S a → (∀ i j, i < 8 → j < 8 → S i → A i j = true → S j) → S b
section CONN
variable {A : Nat → Nat → Bool} {a b c : Nat}
theorem Conn.rf (A : Nat → Nat → Bool) (a : Nat) : Conn A a a := fun _ h _ => h
theorem Conn.tr (h1 : Conn A a b) (h2 : Conn A b c) : Conn A a c := fun S h hc => h2 S (h1 S h hc) hc
theorem Conn.st {i j : Nat} (hi : i < 8) (hj : j < 8) (h : A i j = true) : Conn A i j := fun _ s hc => hc i j hi hj s h
theorem Conn.sy (hs : ∀ i j, i < 8 → j < 8 → A i j = A j i) (h : Conn A a b) : Conn A b a :=
  h (fun x => Conn A x a) (Conn.rf A a) (fun i j hi hj s e => (Conn.st hj hi (by rw [hs j i hj hi]; exact e)).tr s)
end CONN
def stp (M : Nat → Int32) (i : Nat) (s : Int32) : Int32 := if Bt s i = true then s ||| M i else s
def rnd (M : Nat → Int32) (s : Int32) : Int32 := it (stp M) 0 8 s
def Cl (A : Nat → Nat → Bool) (s : Int32) : Prop := ∀ i j, i < 8 → j < 8 → Bt s i = true → A i j = true → Bt s j = true
theorem stp_mono {M : Nat → Int32} {i : Nat} {s : Int32} {x : Nat} (h : Bt s x = true) : Bt (stp M i s) x = true := by
  unfold stp
  split
  · rw [bt_or, h]
    rfl
  · exact h
section CLO
variable {A : Nat → Nat → Bool} {M : Nat → Int32}
theorem rnd_up (hM : ∀ i j, i < 8 → Bt (M i) j = (decide (j < 8) && A i j)) : ∀ n i0 s, i0 + n ≤ 8 → (∀ x, Bt s x = true → Bt (it (stp M) i0 n s) x = true) ∧ (∀ i j, i0 ≤ i → i < i0 + n → j < 8 → Bt s i = true → A i j = true → Bt (it (stp M) i0 n s) j = true) := by
  intro n
  induction n with
  | zero => intro i0 s _; rw [it_0]; exact ⟨fun _ h => h, fun i j h1 h2 => by omega⟩
  | succ n ih =>
    intro i0 s h
    rw [it_s]
    have ih' := ih (i0 + 1) (stp M i0 s) (by omega)
    refine ⟨fun x hx => ih'.1 x (stp_mono hx), fun i j h0 h1 hj hb ha => ?_⟩
    by_cases e : i = i0
    · subst e
      apply ih'.1
      unfold stp
      rw [if_pos hb, bt_or, hM i j (by omega), decide_eq_true hj, ha]
      simp
    · exact ih'.2 i j (by omega) (by omega) hj (stp_mono hb) ha
theorem rnd_snd (hM : ∀ i j, i < 8 → Bt (M i) j = (decide (j < 8) && A i j)) {P : Nat → Prop} (hP : ∀ i j, i < 8 → j < 8 → P i → A i j = true → P j) (s : Int32) (h : ∀ x, Bt s x = true → x < 8 ∧ P x) : ∀ x, Bt (rnd M s) x = true → x < 8 ∧ P x := by
  unfold rnd
  refine it_inv (P := fun s => ∀ x, Bt s x = true → x < 8 ∧ P x) 8 (fun i s hi hs => ?_) 8 0 s (by omega) h
  intro x hx
  unfold stp at hx
  by_cases c : Bt s i = true
  · rw [if_pos c, bt_or, hM i x hi] at hx
    simp only [Bool.or_eq_true, Bool.and_eq_true, decide_eq_true_eq] at hx
    rcases hx with hx | ⟨h1, h2⟩
    · exact hs x hx
    · exact ⟨h1, hP i x hi h1 (hs i c).2 h2⟩
  · rw [if_neg c] at hx
    exact hs x hx
theorem rnd_step (hM : ∀ i j, i < 8 → Bt (M i) j = (decide (j < 8) && A i j)) (s : Int32) (hs : ∀ x, Bt s x = true → x < 8) (c : Nat) (h : Cl A s ∨ c ≤ cnt (Bt s) 0 8) : Cl A (rnd M s) ∨ c + 1 ≤ cnt (Bt (rnd M s)) 0 8 := by
  have hu := rnd_up hM 8 0 s (by omega)
  by_cases hx : ∃ y, y < 8 ∧ Bt s y = false ∧ Bt (rnd M s) y = true
  · obtain ⟨y, hy, h1, h2⟩ := hx
    rcases h with h | h
    · have := rnd_snd hM (P := fun x => Bt s x = true) (fun i j hi hj p a => h i j hi hj p a) s (fun x hx => ⟨hs x hx, hx⟩) y h2
      rw [h1] at this
      exact absurd this.2 (by decide)
    · right
      have := cnt_lt y h1 h2 8 0 (by omega) (by omega) (fun x _ _ => hu.1 x)
      omega
  · left
    have hsub : ∀ x, x < 8 → Bt (rnd M s) x = true → Bt s x = true := fun x hx8 hb => by
      cases e : Bt s x
      · exact absurd ⟨x, hx8, e, hb⟩ hx
      · rfl
    intro i j hi hj hb ha
    exact hu.2 i j (by omega) (by omega) hj (hsub i hi hb) ha
theorem clo (hM : ∀ i j, i < 8 → Bt (M i) j = (decide (j < 8) && A i j)) {k : Nat} (hk : k < 8) (n i : Nat) (hn : 7 ≤ n) (s0 : Int32) (h0 : ∀ j, Bt s0 j = decide (j = k)) (j : Nat) : Bt (it (fun _ s => rnd M s) i n s0) j = true ↔ j < 8 ∧ Conn A k j := by
  have hk0 : Bt s0 k = true := by rw [h0]; exact decide_eq_true rfl
  have hC : ∀ n i s c, ((∀ x, Bt s x = true → x < 8 ∧ Conn A k x) ∧ Bt s k = true) → (Cl A s ∨ c ≤ cnt (Bt s) 0 8) → ((∀ x, Bt (it (fun _ s => rnd M s) i n s) x = true → x < 8 ∧ Conn A k x) ∧ Bt (it (fun _ s => rnd M s) i n s) k = true) ∧ (Cl A (it (fun _ s => rnd M s) i n s) ∨ c + n ≤ cnt (Bt (it (fun _ s => rnd M s) i n s)) 0 8) := by
    intro n
    induction n with
    | zero => intro i s c h1 h2; rw [it_0]; exact ⟨h1, h2⟩
    | succ n ih =>
      intro i s c h1 h2
      rw [it_s]
      have g := ih (i + 1) (rnd M s) (c + 1) ⟨rnd_snd hM (fun a b ha hb p e => p.tr (Conn.st ha hb e)) s h1.1, (rnd_up hM 8 0 s (by omega)).1 k h1.2⟩ (rnd_step hM s (fun x hx => (h1.1 x hx).1) c h2)
      refine ⟨g.1, g.2.imp id (fun q => by omega)⟩
  have h1 : 1 ≤ cnt (Bt s0) 0 8 := by
    have := cnt_lt (B := fun _ => false) (C := Bt s0) k rfl hk0 8 0 (by omega) (by omega) (fun x _ _ q => by cases q)
    omega
  obtain ⟨⟨g1, g2⟩, g3⟩ := hC n i s0 1 ⟨fun x hx => by rw [h0] at hx; have e := of_decide_eq_true hx; subst e; exact ⟨hk, Conn.rf A x⟩, hk0⟩ (Or.inr h1)
  have hcl : Cl A (it (fun _ s => rnd M s) i n s0) := by
    rcases g3 with g3 | g3
    · exact g3
    · intro a b _ hb _ _
      have h8 := cnt_le (Bt (it (fun _ s => rnd M s) i n s0)) 8 0
      exact cnt_all 8 0 (by omega) b (by omega) (by omega)
  exact ⟨g1 j, fun q => q.2 (fun x => Bt (it (fun _ s => rnd M s) i n s0) x = true) g2 (fun a b ha hb p e => hcl a b ha hb p e)⟩
end CLO
def UF (A : Nat → Nat → Bool) (g : Nat → Nat) : Prop := (∀ a, a < 8 → g a ≤ a ∧ g (g a) = g a) ∧ (∀ a b, a < 8 → b < 8 → g a = g b → Conn A a b)
def mg (g : Nat → Nat) (i j : Nat) : Nat → Nat := fun x => if g x = (if g j ≤ g i then g i else g j) then (if g j ≤ g i then g j else g i) else g x
theorem mg_key {g : Nat → Nat} {i j : Nat} (hne : g i ≠ g j) : ∃ hi lo, (hi = g i ∧ lo = g j ∨ hi = g j ∧ lo = g i) ∧ lo < hi ∧ ∀ x, mg g i j x = if g x = hi then lo else g x := by
  by_cases c : g j ≤ g i
  · exact ⟨g i, g j, Or.inl ⟨rfl, rfl⟩, by omega, fun x => by unfold mg; rw [if_pos c, if_pos c]⟩
  · exact ⟨g j, g i, Or.inr ⟨rfl, rfl⟩, by omega, fun x => by unfold mg; rw [if_neg c, if_neg c]⟩
section MG
variable {A : Nat → Nat → Bool} {g : Nat → Nat} {i j : Nat}
theorem mg_ok (hs : ∀ i j, i < 8 → j < 8 → A i j = A j i) (hi : i < 8) (hj : j < 8) (ha : A i j = true) (hne : g i ≠ g j) (h : UF A g) : UF A (mg g i j) := by
  obtain ⟨hh, lo, ho, hl, hm⟩ := mg_key hne
  have gi := h.1 i hi
  have gj := h.1 j hj
  have glo : g lo = lo := by
    rcases ho with ⟨_, e⟩ | ⟨_, e⟩
    · rw [e]; exact gj.2
    · rw [e]; exact gi.2
  have cij : Conn A i j := Conn.st hi hj ha
  have hab : ∀ a b, a < 8 → b < 8 → g a = hh → lo = g b → Conn A a b := fun a b la lb ea eb => by
    rcases ho with ⟨e1, e2⟩ | ⟨e1, e2⟩
    · exact (h.2 a i la hi (ea.trans e1)).tr (cij.tr (h.2 j b hj lb (e2.symm.trans eb)))
    · exact (h.2 a j la hj (ea.trans e1)).tr ((cij.sy hs).tr (h.2 i b hi lb (e2.symm.trans eb)))
  refine ⟨fun a la => ?_, fun a b la lb e => ?_⟩
  · have ga := h.1 a la
    rw [hm a]
    by_cases e : g a = hh
    · rw [if_pos e, hm lo, glo, if_neg (by omega)]
      exact ⟨by omega, rfl⟩
    · rw [if_neg e, hm (g a), ga.2, if_neg e]
      exact ⟨ga.1, rfl⟩
  · rw [hm a, hm b] at e
    by_cases ea : g a = hh
    · rw [if_pos ea] at e
      by_cases eb : g b = hh
      · exact h.2 a b la lb (ea.trans eb.symm)
      · rw [if_neg eb] at e
        exact hab a b la lb ea e
    · rw [if_neg ea] at e
      by_cases eb : g b = hh
      · rw [if_pos eb] at e
        exact (hab b a lb la eb e.symm).sy hs
      · rw [if_neg eb] at e
        exact h.2 a b la lb e
theorem mg_keep {a b : Nat} (e : g a = g b) : mg g i j a = mg g i j b := by
  unfold mg
  rw [e]
theorem mg_join (hne : g i ≠ g j) : mg g i j i = mg g i j j := by
  obtain ⟨hh, lo, ho, hl, hm⟩ := mg_key hne
  rw [hm i, hm j]
  rcases ho with ⟨e1, e2⟩ | ⟨e1, e2⟩
  · rw [if_pos e1.symm, if_neg (by omega), e2]
  · rw [if_neg (by omega), if_pos e1.symm, e2]
theorem mg_cnt (hi : i < 8) (hj : j < 8) (hne : g i ≠ g j) (h : UF A g) : cnt (fun k => decide (mg g i j k = k)) 0 8 + 1 = cnt (fun k => decide (g k = k)) 0 8 := by
  obtain ⟨hh, lo, ho, hl, hm⟩ := mg_key hne
  have gi := h.1 i hi
  have gj := h.1 j hj
  have ghh : g hh = hh ∧ hh < 8 := by
    rcases ho with ⟨e, _⟩ | ⟨e, _⟩
    · rw [e]; exact ⟨gi.2, by omega⟩
    · rw [e]; exact ⟨gj.2, by omega⟩
  refine cnt_drop hh (decide_eq_true ghh.1) (decide_eq_false (by rw [hm hh, if_pos ghh.1]; omega)) 8 0 (by omega) (by omega) (fun x _ hx hxn => ?_)
  have gx := h.1 x (by omega)
  apply decide_eq_decide.mpr
  rw [hm x]
  by_cases e : g x = hh
  · rw [if_pos e]
    omega
  · rw [if_neg e]
/-- labels of a class of its own, told by the least -/
def GR (A : Nat → Nat → Bool) (g : Nat → Nat) : Prop := (∀ a, a < 8 → g a ≤ a ∧ g (g a) = g a) ∧ (∀ a b, a < 8 → b < 8 → (g a = g b ↔ Conn A a b))
theorem UF.gr (h : UF A g) (hp : ∀ a b, a < 8 → b < 8 → A a b = true → g a = g b) : GR A g := by
  refine ⟨h.1, fun a b la lb => ⟨h.2 a b la lb, fun q => ?_⟩⟩
  exact q (fun x => g a = g x) rfl (fun x y hx hy s e => s.trans (hp x y hx hy e))
theorem GR.uniq {g' : Nat → Nat} (h : GR A g) (h' : GR A g') {a : Nat} (ha : a < 8) : g a = g' a := by
  have h1 := h.1 a ha
  have h1' := h'.1 a ha
  have l1 : g a < 8 := by omega
  have l2 : g' a < 8 := by omega
  have c1 := (h'.2 (g' a) a l2 ha).mp h1'.2
  have e1 := (h.2 (g' a) a l2 ha).mpr c1
  have c2 := (h.2 (g a) a l1 ha).mp h1.2
  have e2 := (h'.2 (g a) a l1 ha).mpr c2
  have k1 := (h.1 (g' a) l2).1
  have k2 := (h'.1 (g a) l1).1
  omega
end MG
theorem it_relI {α β : Type} {f : Nat → α → α} {g : Nat → β → β} {P : Nat → α → β → Prop} (i0 N : Nat) (hs : ∀ i a b, i0 ≤ i → i < N → P i a b → P (i + 1) (f i a) (g i b)) : ∀ (n i : Nat) (a : α) (b : β), i0 ≤ i → i + n ≤ N → P i a b → P (i + n) (it f i n a) (it g i n b)
  | 0, i, a, b, _, _, h => by rw [it_0, it_0]; exact h
  | n + 1, i, a, b, h0, hi, h => by
    rw [it_s, it_s]
    have := it_relI i0 N hs n (i + 1) _ _ (by omega) (by omega) (hs i a b h0 (by omega) h)
    rw [show i + (n + 1) = i + 1 + n by omega]
    exact this
theorem it_map (F : Int32 → Int32) : ∀ (n i : Nat) (s : Nat → Int32) (j : Nat), it (fun k r => upd r k (F (r k))) i n s j = if i ≤ j ∧ j < i + n then F (s j) else s j := by
  intro n
  induction n with
  | zero => intro i s j; rw [it_0, if_neg (by omega)]
  | succ n ih =>
    intro i s j
    rw [it_s, ih]
    by_cases h : i + 1 ≤ j ∧ j < i + 1 + n
    · rw [if_pos h, if_pos (by omega), pk_un (by omega)]
    · rw [if_neg h]
      by_cases h2 : j = i
      · subst h2
        rw [pk_us, if_pos (by omega)]
      · rw [pk_un h2, if_neg (by omega)]
theorem join_at (l : Nat → Int32) (a b : Int32) {x : Nat} (hx : x < 8) : f_X4_join l a b x = if l x = b then a else l x := by
  unfold f_X4_join
  have e : it (L_X4_join_2 a b) 0 8 l = it (fun k r => upd r k ((fun v => if v = b then a else v) (r k))) 0 8 l := by
    refine it_cg 0 8 (fun i s _ _ => ?_) 8 0 l (by omega) (by omega)
    unfold L_X4_join_2
    dsimp only
    by_cases c : s i = b
    · rw [if_pos c, if_pos c]
    · rw [if_neg c, if_neg c]
      funext y
      by_cases e : y = i
      · rw [e, pk_us]
      · rw [pk_un e]
  rw [e]
  exact (it_map (fun v => if v = b then a else v) 8 0 l x).trans (if_pos (by omega))
section GROUPS
variable {bm sp ph sg st wy ks nt gv se : Nat → Int32} {tk kk sk : Int32} {pl ld : Nat → Int32} {row : Nat → Int32}
theorem dec8 (c : Nat) : nI (c + 1) + (-1 : Int32) = nI c := by
  rw [← nI_pred c, Int32.sub_eq_add_neg]
end GROUPS


section TELLS
variable {bm sp ph sg st wy ks nt gv se : Nat → Int32} {tk kk sk : Int32} {pl ld : Nat → Int32} {row : Nat → Int32}
theorem bI_bt (b : Bool) : (if b = true then (1 : Int32) else 0) = bI b := by cases b <;> rfl
theorem bI_self (b : Bool) : bI (if b = true then true else false) = bI b := by cases b <;> rfl
theorem gm_eq (nt se : Nat → Int32) (k : Nat) : f_X4_groupMask nt se k = it (fun _ s => rnd (f_X4_lockedMask nt se) s) 1 7 ((1 : Int32) <<< ((nI k) &&& 31)) := by
  unfold f_X4_groupMask
  refine it_cg 1 8 (fun i a _ _ => ?_) 7 1 _ (by omega) (by omega)
  unfold L_X4_groupMask_6 rnd
  refine it_cg 0 8 (fun j s _ hj => ?_) 8 0 _ (by omega) (by omega)
  unfold L_X4_groupMask_15 stp
  rw [isIn_bt s hj]
theorem bt_eq {a b : Int32} (h : ∀ j, Bt a j = true ↔ Bt b j = true) : a = b := bt_ext (fun j => Bool.eq_iff_iff.mpr (h j))
/-- the masks of beams -/
theorem bt_beam (b : Int32) (bm : Nat → Int32) (j : Nat) : Bt (f_X4_maskOfBeam bm b) j = (decide (j < 8) && f_X4_hangsOn bm j b) := by
  have h := bt_it2 (fun i => f_X4_hangsOn bm i b) 8 0 0 j (by omega)
  rw [bt_0, Bool.false_or] at h
  refine h.trans ?_
  congr 1
  exact decide_eq_decide.mpr (by omega)
theorem bt_going (sg : Nat → Int32) (j : Nat) : Bt (f_X4_goingMask sg) j = (decide (j < 8) && f_X4_goes sg j) := by
  have h := bt_it2 (fun i => f_X4_goes sg i) 8 0 0 j (by omega)
  rw [bt_0, Bool.false_or] at h
  refine h.trans ?_
  congr 1
  exact decide_eq_decide.mpr (by omega)
end TELLS


theorem itx_rel {α β ρ σ : Type} {f : Nat → α → α ⊕ ρ} {g : Nat → β → β ⊕ σ} {P : α → β → Prop} {Q : ρ → σ → Prop} (N : Nat) (hs : ∀ i a b, i < N → P a b → (∃ r r', f i a = .inr r ∧ g i b = .inr r' ∧ Q r r') ∨ (∃ a' b', f i a = .inl a' ∧ g i b = .inl b' ∧ P a' b')) : ∀ (n i : Nat) (a : α) (b : β), i + n ≤ N → P a b → (∃ r r', itx f i n a = .inr r ∧ itx g i n b = .inr r' ∧ Q r r') ∨ (∃ a' b', itx f i n a = .inl a' ∧ itx g i n b = .inl b' ∧ P a' b')
  | 0, i, a, b, _, h => Or.inr ⟨a, b, itx_0 f i a, itx_0 g i b, h⟩
  | n + 1, i, a, b, hi, h => by
    rcases hs i a b (by omega) h with ⟨r, r', e1, e2, hq⟩ | ⟨a', b', e1, e2, hp⟩
    · exact Or.inl ⟨r, r', itx_r f i n a r e1, itx_r g i n b r' e2, hq⟩
    · rw [itx_l f i n a a' e1, itx_l g i n b b' e2]
      exact itx_rel N hs n (i + 1) a' b' (by omega) hp
theorem itx_more_l {α ρ : Type} {f : Nat → α → α ⊕ ρ} (m : Nat) : ∀ (n i : Nat) (a a' : α), itx f i n a = .inl a' → itx f i (n + m) a = itx f (i + n) m a'
  | 0, i, a, a', h => by
    rw [itx_0] at h
    cases h
    rw [Nat.zero_add, Nat.add_zero]
  | n + 1, i, a, a', h => by
    rw [show n + 1 + m = n + m + 1 by omega, show i + (n + 1) = i + 1 + n by omega]
    cases e : f i a with
    | inl a2 =>
      rw [itx_l f i n a a2 e] at h
      rw [itx_l f i (n + m) a a2 e]
      exact itx_more_l m n (i + 1) a2 a' h
    | inr r =>
      rw [itx_r f i n a r e] at h
      cases h
theorem itx_more_r {α ρ : Type} {f : Nat → α → α ⊕ ρ} (m : Nat) : ∀ (n i : Nat) (a : α) (r : ρ), itx f i n a = .inr r → itx f i (n + m) a = .inr r
  | 0, i, a, r, h => by
    rw [itx_0] at h
    cases h
  | n + 1, i, a, r, h => by
    rw [show n + 1 + m = n + m + 1 by omega]
    cases e : f i a with
    | inl a2 =>
      rw [itx_l f i n a a2 e] at h
      rw [itx_l f i (n + m) a a2 e]
      exact itx_more_r m n (i + 1) a2 r h
    | inr r2 =>
      rw [itx_r f i n a r2 e] at h
      rw [itx_r f i (n + m) a r2 e]
      exact h
