/-! groups of locked clocks: joined, walked, told by the least -/
/-- two clocks are locked -/
def AL (nt se : Nat → Int32) (i j : Nat) : Bool := if i = j then false else f_X4_areLocked nt se i j
section GRP
variable {nt se : Nat → Int32}
theorem AL_ne {i j : Nat} (h : i ≠ j) : AL nt se i j = f_X4_areLocked nt se i j := by
  unfold AL
  rw [if_neg h]
theorem AL_no (i : Nat) : AL nt se i i = false := by
  unfold AL
  rw [if_pos rfl]
theorem lk_sy (h : NS nt) {i j : Nat} (hi : i < 8) (hj : j < 8) : f_X4_areLocked nt se i j = f_X4_areLocked nt se j i := by
  unfold f_X4_areLocked
  rw [h i j hi hj]
theorem AL_sy (h : NS nt) : ∀ i j, i < 8 → j < 8 → AL nt se i j = AL nt se j i := by
  intro i j hi hj
  by_cases c : i = j
  · rw [c]
  · rw [AL_ne c, AL_ne (fun q => c q.symm), lk_sy h hi hj]
theorem bt_lm (k j : Nat) : Bt (f_X4_lockedMask nt se k) j = (decide (j < 8) && AL nt se k j) := by
  have e : f_X4_lockedMask nt se k = it (fun i r => if AL nt se k i = true then (r ||| ((1 : Int32) <<< ((nI i) &&& 31))) else r) 0 8 0 := by
    unfold f_X4_lockedMask
    refine it_cg 0 8 (fun i a _ hi => ?_) 8 0 _ (by omega) (by omega)
    unfold L_X4_lockedMask_4
    by_cases c : i = k
    · subst c
      rw [if_pos rfl, AL_no, if_neg (by decide)]
    · rw [if_neg c, AL_ne (fun q => c q.symm)]
  rw [e, bt_it2 (fun i => AL nt se k i) 8 0 0 j (by omega), bt_0, Bool.false_or]
  congr 1
  exact decide_eq_decide.mpr (by omega)
theorem bt_gm {k : Nat} (hk : k < 8) (j : Nat) : Bt (f_X4_groupMask nt se k) j = true ↔ j < 8 ∧ Conn (AL nt se) k j := by
  rw [gm_eq]
  exact clo (fun i j _ => bt_lm i j) hk 7 1 (by omega) _ (bt_one hk) j
theorem gm_hi {k : Nat} (hk : k < 8) : ∀ j, 8 ≤ j → Bt (f_X4_groupMask nt se k) j = false := fun j hj => by
  cases e : Bt (f_X4_groupMask nt se k) j
  · rfl
  · have := ((bt_gm hk j).mp e).1
    omega
/-- what the labels hold while pairs are joined -/
def JP (nt se : Nat → Int32) (i j : Nat) (a : Int32 × (Nat → Int32)) : Prop :=
  ∃ g : Nat → Nat, UF (AL nt se) g ∧ (∀ x y, x < 8 → y < 8 → (a.2 x = a.2 y ↔ g x = g y)) ∧ a.1 = nI (cnt (fun k => decide (g k = k)) 0 8) ∧ (∀ x y, x < y → y < 8 → (x < i ∨ (x = i ∧ y < j)) → AL nt se x y = true → g x = g y)
set_option maxHeartbeats 4000000 in
theorem join_step (hn : NS nt) {i j : Nat} (hij : i < j) (hj : j < 8) {a : Int32 × (Nat → Int32)} (hp : JP nt se i j a) : JP nt se i (j + 1) (L_X4_groupsByJoining_36 nt se i j a) := by
  obtain ⟨g, hu, hl, hc, hd⟩ := hp
  have hi : i < 8 := by omega
  have hsy : ∀ i j, i < 8 → j < 8 → AL nt se i j = AL nt se j i := AL_sy hn
  unfold L_X4_groupsByJoining_36
  rw [← AL_ne (nt := nt) (se := se) (show i ≠ j by omega)]
  by_cases cl : AL nt se i j = true
  · rw [if_pos cl, if_pos cl]
    have gi := hu.1 i hi
    have gj := hu.1 j hj
    by_cases ce : g i = g j
    · rw [if_pos ((hl i j hi hj).mpr ce), if_pos ((hl i j hi hj).mpr ce)]
      refine ⟨g, hu, hl, hc, fun x y hxy hy hq hlk => ?_⟩
      by_cases e : x = i ∧ y = j
      · rw [e.1, e.2]; exact ce
      · exact hd x y hxy hy (by omega) hlk
    · have cn : ¬ a.2 i = a.2 j := fun q => ce ((hl i j hi hj).mp q)
      rw [if_neg cn, if_neg cn]
      refine ⟨mg g i j, mg_ok hsy hi hj cl ce hu, fun x y hx hy => ?_, ?_, fun x y hxy hy hq hlk => ?_⟩
      · show f_X4_join a.2 (a.2 i) (a.2 j) x = f_X4_join a.2 (a.2 i) (a.2 j) y ↔ _
        rw [join_at _ _ _ hx, join_at _ _ _ hy]
        obtain ⟨hh, lo, ho, hlo, hm⟩ := mg_key ce
        rw [hm x, hm y]
        have lx := hl x j hx hj
        have ly := hl y j hy hj
        have lxi := hl x i hx hi
        have lyi := hl y i hy hi
        have lxy := hl x y hx hy
        by_cases cx : g x = g j
        · rw [if_pos (lx.mpr cx)]
          by_cases cy : g y = g j
          · rw [if_pos (ly.mpr cy), cx, cy]
            exact ⟨fun _ => rfl, fun _ => rfl⟩
          · rw [if_neg (fun q => cy (ly.mp q))]
            have e : (a.2 i = a.2 y) ↔ g y = g i := ⟨fun q => lyi.mp q.symm, fun q => (lyi.mpr q).symm⟩
            rw [e]
            rcases ho with ⟨e1, e2⟩ | ⟨e1, e2⟩
            · by_cases c3 : g y = g i
              · rw [if_neg (by omega), if_pos (by omega)]; omega
              · rw [if_neg (by omega), if_neg (by omega)]; omega
            · by_cases c3 : g y = g i
              · rw [if_pos (by omega), if_neg (by omega)]; omega
              · rw [if_pos (by omega), if_neg (by omega)]; omega
        · rw [if_neg (fun q => cx (lx.mp q))]
          by_cases cy : g y = g j
          · rw [if_pos (ly.mpr cy), lxi]
            rcases ho with ⟨e1, e2⟩ | ⟨e1, e2⟩
            · by_cases c3 : g x = g i
              · rw [if_pos (by omega), if_neg (by omega)]; omega
              · rw [if_neg (by omega), if_neg (by omega)]; omega
            · by_cases c3 : g x = g i
              · rw [if_neg (by omega), if_pos (by omega)]; omega
              · rw [if_neg (by omega), if_pos (by omega)]; omega
          · rw [if_neg (fun q => cy (ly.mp q)), lxy]
            rcases ho with ⟨e1, e2⟩ | ⟨e1, e2⟩
            · by_cases c3 : g x = g i
              · by_cases c4 : g y = g i
                · rw [if_pos (by omega), if_pos (by omega)]; omega
                · rw [if_pos (by omega), if_neg (by omega)]; omega
              · by_cases c4 : g y = g i
                · rw [if_neg (by omega), if_pos (by omega)]; omega
                · rw [if_neg (by omega), if_neg (by omega)]
            · rw [if_neg (by omega), if_neg (by omega)]
      · show a.1 + (-1 : Int32) = _
        rw [hc, ← mg_cnt hi hj ce hu]
        exact dec8 _
      · by_cases e : x = i ∧ y = j
        · rw [e.1, e.2]; exact mg_join ce
        · exact mg_keep (hd x y hxy hy (by omega) hlk)
  · rw [if_neg cl, if_neg cl]
    refine ⟨g, hu, hl, hc, fun x y hxy hy hq hlk => ?_⟩
    by_cases e : x = i ∧ y = j
    · rw [e.1, e.2] at hlk; exact absurd hlk cl
    · exact hd x y hxy hy (by omega) hlk
theorem join_all (hn : NS nt) (l : Nat → Int32) : JP nt se 8 0 (f_X4_groupsByJoining nt se l) := by
  unfold f_X4_groupsByJoining
  refine it_invI (P := fun i a => JP nt se i 0 a) 8 (fun i a hi hp => ?_) 8 0 _ (by omega) ?_
  · unfold L_X4_groupsByJoining_26
    have hp1 : JP nt se i (i + 1) a := by
      obtain ⟨g, hu, hl, hc, hd⟩ := hp
      exact ⟨g, hu, hl, hc, fun x y hxy hy hq hlk => hd x y hxy hy (by omega) hlk⟩
    have hp2 := it_relI (f := L_X4_groupsByJoining_36 nt se i) (g := fun _ (u : Unit) => u) (P := fun j a _ => JP nt se i j a) (i + 1) 8 (fun j a _ hij hj hp => join_step hn (by omega) hj hp) (8 - (i + 1)) (i + 1) a () (by omega) (by omega) hp1
    obtain ⟨g, hu, hl, hc, hd⟩ := hp2
    exact ⟨g, hu, hl, hc, fun x y hxy hy hq hlk => hd x y hxy hy (by omega) hlk⟩
  · have e4 : ∀ x, x < 8 → it L_X4_groupsByJoining_2 0 8 l x = nI x := fun x hx => (it_upd nI 8 0 l x).trans (if_pos (by omega))
    refine ⟨fun x => x, ⟨fun a _ => ⟨Nat.le_refl a, rfl⟩, fun a b _ _ e => by rw [show a = b from e]; exact Conn.rf _ b⟩, fun x y hx hy => ?_, show (8 : Int32) = nI (cnt (fun k => decide ((fun x => x) k = k)) 0 8) by decide +kernel, fun x y _ _ hq => by omega⟩
    show it L_X4_groupsByJoining_2 0 8 l x = it L_X4_groupsByJoining_2 0 8 l y ↔ x = y
    rw [e4 x hx, e4 y hy]
    exact nI_eq (by omega) (by omega)
/-- the labels of groups -/
theorem lay (hn : NS nt) : ∃ g : Nat → Nat, GR (AL nt se) g ∧ (∀ l, (f_X4_groupsByJoining nt se l).1 = nI (cnt (fun k => decide (g k = k)) 0 8)) := by
  have hall : ∀ l, ∃ g : Nat → Nat, GR (AL nt se) g ∧ (f_X4_groupsByJoining nt se l).1 = nI (cnt (fun k => decide (g k = k)) 0 8) := fun l => by
    obtain ⟨g, hu, hl, hc, hd⟩ := join_all (se := se) hn l
    refine ⟨g, hu.gr (fun a b ha hb e => ?_), hc⟩
    by_cases c : a < b
    · exact hd a b c hb (by omega) e
    · by_cases c2 : b < a
      · exact (hd b a c2 ha (by omega) (by rw [AL_sy hn b a hb ha]; exact e)).symm
      · have e3 : a = b := by omega
        rw [e3]
  obtain ⟨g, hg, hc⟩ := hall (fun _ => 0)
  refine ⟨g, hg, fun l => ?_⟩
  obtain ⟨g', hg', hc'⟩ := hall l
  rw [hc']
  congr 1
  refine cnt_cg 8 0 (fun x _ hx => ?_)
  show decide (g' x = x) = decide (g x = x)
  rw [hg.uniq hg' (by omega)]
section LAY
variable {g : Nat → Nat}
theorem gm_gr (hg : GR (AL nt se) g) {k x : Nat} (hk : k < 8) (hx : x < 8) : Bt (f_X4_groupMask nt se k) x = true ↔ g k = g x := by
  rw [bt_gm hk x]
  exact ⟨fun q => (hg.2 k x hk hx).mpr q.2, fun q => ⟨hx, (hg.2 k x hk hx).mp q⟩⟩
theorem low_gr (hg : GR (AL nt se) g) {k : Nat} (hk : k < 8) : f_X4_lowestOfGroup nt se k = nI (g k) := by
  unfold f_X4_lowestOfGroup
  congr 1
  have gk := hg.1 k hk
  have hy : Bt (f_X4_groupMask nt se k) (g k) = true := (gm_gr hg hk (by omega)).mpr gk.2.symm
  have hn : ∀ x, x < g k → ¬ Bt (f_X4_groupMask nt se k) x = true := fun x hx q => by
    have e := (gm_gr hg hk (by omega)).mp q
    have := (hg.1 x (by omega)).1
    omega
  have key : ∀ n i, i + n = k → i ≤ g k → (unc k (itx (L_X4_lowestOfGroup_8 nt se k) i n ())).2 = g k := by
    intro n
    induction n with
    | zero => intro i e hi; rw [itx_0]; show k = g k; omega
    | succ n ih =>
      intro i e hi
      by_cases c : Bt (f_X4_groupMask nt se k) i = true
      · have e2 : i = g k := by
          by_cases hlt : i < g k
          · exact absurd c (hn i hlt)
          · omega
        rw [itx_r (r := ((), i))]
        · show i = g k
          exact e2
        · unfold L_X4_lowestOfGroup_8
          rw [isIn_bt _ (by omega), if_pos c]
      · have e2 : i ≠ g k := fun q => c (by rw [q]; exact hy)
        rw [itx_l (s' := ())]
        · exact ih (i + 1) (by omega) (by omega)
        · unfold L_X4_lowestOfGroup_8
          rw [isIn_bt _ (by omega), if_neg c]
  exact key k 0 (by omega) (by omega)
theorem cnt_snoc (B : Nat → Bool) : ∀ n i, cnt B i (n + 1) = cnt B i n + bN (B (i + n))
  | 0, i => by
    show bN (B i) + 0 = 0 + bN (B (i + 0))
    rw [Nat.add_zero, Nat.add_zero, Nat.zero_add]
  | n + 1, i => by
    have h := cnt_snoc B n (i + 1)
    show bN (B i) + cnt B (i + 1) (n + 1) = (bN (B i) + cnt B (i + 1) n) + _
    rw [h, show i + (n + 1) = i + 1 + n by omega]
    omega
theorem walk_gr (hg : GR (AL nt se) g) : f_X4_groupsByWalking nt se = nI (cnt (fun k => decide (g k = k)) 0 8) := by
  unfold f_X4_groupsByWalking
  have h := it_invI (f := L_X4_groupsByWalking_6 nt se) (P := fun i a => (∀ j, j < 8 → (Bt a.1 j = true ↔ ∃ k, k < i ∧ g k = g j)) ∧ a.2 = nI (cnt (fun k => decide (g k = k)) 0 i)) 8 (fun i a hi hp => ?_) 8 0 ((0 : Int32), (0 : Int32)) (by omega) ⟨fun j _ => by
    show Bt 0 j = true ↔ _
    rw [bt_0]
    exact ⟨(fun q => by cases q), (fun q => by obtain ⟨k, h, _⟩ := q; omega)⟩, rfl⟩
  · exact h.2
  · obtain ⟨m, n⟩ := a
    obtain ⟨h1, h2⟩ := hp
    have h1 : ∀ j, j < 8 → (Bt m j = true ↔ ∃ k, k < i ∧ g k = g j) := h1
    have h2 : n = nI (cnt (fun k => decide (g k = k)) 0 i) := h2
    unfold L_X4_groupsByWalking_6
    dsimp only
    rw [isIn_bt m hi, cnt_snoc, Nat.zero_add]
    have gi := hg.1 i hi
    by_cases c : Bt m i = true
    · rw [if_pos c, if_pos c]
      obtain ⟨k, k1, k2⟩ := (h1 i hi).mp c
      have gk := hg.1 k (by omega)
      refine ⟨fun j hj => ?_, ?_⟩
      · rw [h1 j hj]
        constructor
        · intro q
          obtain ⟨x, x1, x2⟩ := q
          exact ⟨x, by omega, x2⟩
        · intro q
          obtain ⟨x, x1, x2⟩ := q
          by_cases e : x = i
          · subst e
            exact ⟨k, k1, k2.trans x2⟩
          · exact ⟨x, by omega, x2⟩
      · rw [show decide (g i = i) = false from decide_eq_false (by omega)]
        exact h2
    · rw [if_neg c, if_neg c]
      have hlt : g i = i := by
        by_cases e : g i = i
        · exact e
        · exact absurd ((h1 i hi).mpr ⟨g i, by omega, gi.2⟩) c
      refine ⟨fun j hj => ?_, ?_⟩
      · show Bt (m ||| f_X4_groupMask nt se i) j = true ↔ _
        rw [bt_or, Bool.or_eq_true, h1 j hj, gm_gr hg hi hj]
        constructor
        · intro q
          rcases q with ⟨x, x1, x2⟩ | q
          · exact ⟨x, by omega, x2⟩
          · exact ⟨i, by omega, q⟩
        · intro q
          obtain ⟨x, x1, x2⟩ := q
          by_cases e : x = i
          · subst e
            exact Or.inr x2
          · exact Or.inl ⟨x, by omega, x2⟩
      · rw [decide_eq_true hlt]
        show n + 1 = nI (_ + 1)
        rw [h2, nI_1]
end LAY
theorem great_rng : ∃ n, n ≤ 8 ∧ 1 ≤ n ∧ f_X4_greatestGroup nt se = nI n := by
  unfold f_X4_greatestGroup
  have g := it_relI (f := L_X4_greatestGroup_4 nt se) (g := fun _ (u : Unit) => u) (P := fun i (s : Int32) (_ : Unit) => ∃ n, n ≤ 8 ∧ (0 < i → 1 ≤ n) ∧ s = nI n) 0 8 (fun i s u _ hi hp => ?_) 8 0 (0 : Int32) () (by omega) (by omega) ⟨0, by omega, by omega, rfl⟩
  · obtain ⟨n, h1, h2, h3⟩ := g
    exact ⟨n, h1, h2 (by omega), h3⟩
  · obtain ⟨n, h1, h2, h3⟩ := hp
    unfold L_X4_greatestGroup_4
    rw [h3, bc_eq (gm_hi hi)]
    have hb := (bt_gm (nt := nt) (se := se) hi i).mpr ⟨hi, Conn.rf _ i⟩
    have h4 := cnt_lt (B := fun _ => false) (C := Bt (f_X4_groupMask nt se i)) i rfl hb 8 0 (by omega) (by omega) (fun x _ _ q => by cases q)
    have h5 := cnt_le (Bt (f_X4_groupMask nt se i)) 8 0
    by_cases c : nI n < nI (cnt (Bt (f_X4_groupMask nt se i)) 0 8)
    · rw [if_pos c]
      exact ⟨_, h5, fun _ => by omega, rfl⟩
    · rw [if_neg c]
      have c2 : ¬ n < cnt (Bt (f_X4_groupMask nt se i)) 0 8 := fun q => c ((nI_ltI (by omega) (by omega)).mpr q)
      exact ⟨n, h1, fun _ => by omega, rfl⟩
/-! pairs -/
def psum (A : Nat → Nat → Bool) : Nat → Nat
  | 0 => 0
  | i + 1 => psum A i + cnt (A i) (i + 1) (8 - (i + 1))
def dsum (A : Nat → Nat → Bool) : Nat → Nat
  | 0 => 0
  | i + 1 => dsum A i + cnt (A i) 0 8
theorem lpairs_eq : f_X4_lockedPairs nt se = nI (psum (AL nt se) 8) := by
  unfold f_X4_lockedPairs
  refine it_invI (P := fun i (a : Int32) => a = nI (psum (AL nt se) i)) 8 (fun i a hi hp => ?_) 8 0 _ (by omega) rfl
  subst hp
  unfold L_X4_lockedPairs_4
  show _ = nI (psum (AL nt se) i + cnt (AL nt se i) (i + 1) (8 - (i + 1)))
  rw [← it_cnt]
  refine it_cg (i + 1) 8 (fun j s hij hj => ?_) _ _ _ (by omega) (by omega)
  unfold L_X4_lockedPairs_14
  rw [← AL_ne (nt := nt) (se := se) (show i ≠ j by omega)]
  cases AL nt se i j
  · exact (Int32.add_zero s).symm
  · rfl
theorem cnt_b1 (B : Nat → Bool) (i n : Nat) : cnt B i (n + 1) = bN (B i) + cnt B (i + 1) n := rfl
theorem cnt_00 (B : Nat → Bool) (i : Nat) : cnt B i 0 = 0 := rfl
theorem dsum_eq {A : Nat → Nat → Bool} (hs : ∀ i j, i < 8 → j < 8 → A i j = A j i) (h0 : ∀ i, A i i = false) : dsum A 8 = 2 * psum A 8 := by
  have e : ∀ i, bN (A i i) = 0 := fun i => by rw [h0]; rfl
  show (0 + cnt (A 0) 0 8 + cnt (A 1) 0 8 + cnt (A 2) 0 8 + cnt (A 3) 0 8 + cnt (A 4) 0 8 + cnt (A 5) 0 8 + cnt (A 6) 0 8 + cnt (A 7) 0 8) = 2 * (0 + cnt (A 0) 1 7 + cnt (A 1) 2 6 + cnt (A 2) 3 5 + cnt (A 3) 4 4 + cnt (A 4) 5 3 + cnt (A 5) 6 2 + cnt (A 6) 7 1 + cnt (A 7) 8 0)
  simp only [cnt_b1, cnt_00, Nat.zero_add, Nat.reduceAdd, e]
  rw [hs 1 0 (by decide) (by decide), hs 2 0 (by decide) (by decide), hs 3 0 (by decide) (by decide), hs 4 0 (by decide) (by decide), hs 5 0 (by decide) (by decide), hs 6 0 (by decide) (by decide), hs 7 0 (by decide) (by decide), hs 2 1 (by decide) (by decide), hs 3 1 (by decide) (by decide), hs 4 1 (by decide) (by decide), hs 5 1 (by decide) (by decide), hs 6 1 (by decide) (by decide), hs 7 1 (by decide) (by decide), hs 3 2 (by decide) (by decide), hs 4 2 (by decide) (by decide), hs 5 2 (by decide) (by decide), hs 6 2 (by decide) (by decide), hs 7 2 (by decide) (by decide), hs 4 3 (by decide) (by decide), hs 5 3 (by decide) (by decide), hs 6 3 (by decide) (by decide), hs 7 3 (by decide) (by decide), hs 5 4 (by decide) (by decide), hs 6 4 (by decide) (by decide), hs 7 4 (by decide) (by decide), hs 6 5 (by decide) (by decide), hs 7 5 (by decide) (by decide), hs 7 6 (by decide) (by decide)]
  omega
end GRP
