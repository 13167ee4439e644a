/-! groups of locked clocks, told in each way -/
def Conn (A : Nat → Nat → Bool) (a b : Nat) : Prop := ∀ S : Nat → Prop, S a → (∀ i j, i < 8 → j < 8 → S i → A i j = true → S j) → S b
section CONN
variable {A : Nat → Nat → Bool} {a b c : Nat}
theorem Conn.rf (A : Nat → Nat → Bool) (a : Nat) : Conn A a a := fun _ h _ => h
theorem Conn.tr (h1 : Conn A a b) (h2 : Conn A b c) : Conn A a c := fun S h hc => h2 S (h1 S h hc) hc
theorem Conn.st {i j : Nat} (hi : i < 8) (hj : j < 8) (h : A i j = true) : Conn A i j := fun _ s hc => hc i j hi hj s h
theorem Conn.sy (hs : ∀ i j, i < 8 → j < 8 → A i j = A j i) (h : Conn A a b) : Conn A b a :=
  h (fun x => Conn A x a) (Conn.rf A a) (fun i j hi hj s e => (Conn.st hj hi (by rw [hs j i hj hi]; exact e)).tr s)
end CONN
def stp (M : Nat → Int32) (i : Nat) (s : Int32) : Int32 := if Bt s i = true then s ||| M i else s
def rnd (M : Nat → Int32) (s : Int32) : Int32 := it (stp M) 0 8 s
def Cl (A : Nat → Nat → Bool) (s : Int32) : Prop := ∀ i j, i < 8 → j < 8 → Bt s i = true → A i j = true → Bt s j = true
theorem stp_mono {M : Nat → Int32} {i : Nat} {s : Int32} {x : Nat} (h : Bt s x = true) : Bt (stp M i s) x = true := by
  unfold stp
  split
  · rw [bt_or, h]
    rfl
  · exact h
section CLO
variable {A : Nat → Nat → Bool} {M : Nat → Int32}
theorem rnd_up (hM : ∀ i j, i < 8 → Bt (M i) j = (decide (j < 8) && A i j)) : ∀ n i0 s, i0 + n ≤ 8 → (∀ x, Bt s x = true → Bt (it (stp M) i0 n s) x = true) ∧ (∀ i j, i0 ≤ i → i < i0 + n → j < 8 → Bt s i = true → A i j = true → Bt (it (stp M) i0 n s) j = true) := by
  intro n
  induction n with
  | zero => intro i0 s _; rw [it_0]; exact ⟨fun _ h => h, fun i j h1 h2 => by omega⟩
  | succ n ih =>
    intro i0 s h
    rw [it_s]
    have ih' := ih (i0 + 1) (stp M i0 s) (by omega)
    refine ⟨fun x hx => ih'.1 x (stp_mono hx), fun i j h0 h1 hj hb ha => ?_⟩
    by_cases e : i = i0
    · subst e
      apply ih'.1
      unfold stp
      rw [if_pos hb, bt_or, hM i j (by omega), decide_eq_true hj, ha]
      simp
    · exact ih'.2 i j (by omega) (by omega) hj (stp_mono hb) ha
theorem rnd_snd (hM : ∀ i j, i < 8 → Bt (M i) j = (decide (j < 8) && A i j)) {P : Nat → Prop} (hP : ∀ i j, i < 8 → j < 8 → P i → A i j = true → P j) (s : Int32) (h : ∀ x, Bt s x = true → x < 8 ∧ P x) : ∀ x, Bt (rnd M s) x = true → x < 8 ∧ P x := by
  unfold rnd
  refine it_inv (P := fun s => ∀ x, Bt s x = true → x < 8 ∧ P x) 8 (fun i s hi hs => ?_) 8 0 s (by omega) h
  intro x hx
  unfold stp at hx
  by_cases c : Bt s i = true
  · rw [if_pos c, bt_or, hM i x hi] at hx
    simp only [Bool.or_eq_true, Bool.and_eq_true, decide_eq_true_eq] at hx
    rcases hx with hx | ⟨h1, h2⟩
    · exact hs x hx
    · exact ⟨h1, hP i x hi h1 (hs i c).2 h2⟩
  · rw [if_neg c] at hx
    exact hs x hx
theorem rnd_step (hM : ∀ i j, i < 8 → Bt (M i) j = (decide (j < 8) && A i j)) (s : Int32) (hs : ∀ x, Bt s x = true → x < 8) (c : Nat) (h : Cl A s ∨ c ≤ cnt (Bt s) 0 8) : Cl A (rnd M s) ∨ c + 1 ≤ cnt (Bt (rnd M s)) 0 8 := by
  have hu := rnd_up hM 8 0 s (by omega)
  by_cases hx : ∃ y, y < 8 ∧ Bt s y = false ∧ Bt (rnd M s) y = true
  · obtain ⟨y, hy, h1, h2⟩ := hx
    rcases h with h | h
    · have := rnd_snd hM (P := fun x => Bt s x = true) (fun i j hi hj p a => h i j hi hj p a) s (fun x hx => ⟨hs x hx, hx⟩) y h2
      rw [h1] at this
      exact absurd this.2 (by decide)
    · right
      have := cnt_lt y h1 h2 8 0 (by omega) (by omega) (fun x _ _ => hu.1 x)
      omega
  · left
    have hsub : ∀ x, x < 8 → Bt (rnd M s) x = true → Bt s x = true := fun x hx8 hb => by
      cases e : Bt s x
      · exact absurd ⟨x, hx8, e, hb⟩ hx
      · rfl
    intro i j hi hj hb ha
    exact hu.2 i j (by omega) (by omega) hj (hsub i hi hb) ha
theorem clo (hM : ∀ i j, i < 8 → Bt (M i) j = (decide (j < 8) && A i j)) {k : Nat} (hk : k < 8) (n i : Nat) (hn : 7 ≤ n) (s0 : Int32) (h0 : ∀ j, Bt s0 j = decide (j = k)) (j : Nat) : Bt (it (fun _ s => rnd M s) i n s0) j = true ↔ j < 8 ∧ Conn A k j := by
  have hk0 : Bt s0 k = true := by rw [h0]; exact decide_eq_true rfl
  have hC : ∀ n i s c, ((∀ x, Bt s x = true → x < 8 ∧ Conn A k x) ∧ Bt s k = true) → (Cl A s ∨ c ≤ cnt (Bt s) 0 8) → ((∀ x, Bt (it (fun _ s => rnd M s) i n s) x = true → x < 8 ∧ Conn A k x) ∧ Bt (it (fun _ s => rnd M s) i n s) k = true) ∧ (Cl A (it (fun _ s => rnd M s) i n s) ∨ c + n ≤ cnt (Bt (it (fun _ s => rnd M s) i n s)) 0 8) := by
    intro n
    induction n with
    | zero => intro i s c h1 h2; rw [it_0]; exact ⟨h1, h2⟩
    | succ n ih =>
      intro i s c h1 h2
      rw [it_s]
      have g := ih (i + 1) (rnd M s) (c + 1) ⟨rnd_snd hM (fun a b ha hb p e => p.tr (Conn.st ha hb e)) s h1.1, (rnd_up hM 8 0 s (by omega)).1 k h1.2⟩ (rnd_step hM s (fun x hx => (h1.1 x hx).1) c h2)
      refine ⟨g.1, g.2.imp id (fun q => by omega)⟩
  have h1 : 1 ≤ cnt (Bt s0) 0 8 := by
    have := cnt_lt (B := fun _ => false) (C := Bt s0) k rfl hk0 8 0 (by omega) (by omega) (fun x _ _ q => by cases q)
    omega
  obtain ⟨⟨g1, g2⟩, g3⟩ := hC n i s0 1 ⟨fun x hx => by rw [h0] at hx; have e := of_decide_eq_true hx; subst e; exact ⟨hk, Conn.rf A x⟩, hk0⟩ (Or.inr h1)
  have hcl : Cl A (it (fun _ s => rnd M s) i n s0) := by
    rcases g3 with g3 | g3
    · exact g3
    · intro a b _ hb _ _
      have h8 := cnt_le (Bt (it (fun _ s => rnd M s) i n s0)) 8 0
      exact cnt_all 8 0 (by omega) b (by omega) (by omega)
  exact ⟨g1 j, fun q => q.2 (fun x => Bt (it (fun _ s => rnd M s) i n s0) x = true) g2 (fun a b ha hb p e => hcl a b ha hb p e)⟩
end CLO
/-! labels joined -/
def UF (A : Nat → Nat → Bool) (g : Nat → Nat) : Prop := (∀ a, a < 8 → g a ≤ a ∧ g (g a) = g a) ∧ (∀ a b, a < 8 → b < 8 → g a = g b → Conn A a b)
def mg (g : Nat → Nat) (i j : Nat) : Nat → Nat := fun x => if g x = (if g j ≤ g i then g i else g j) then (if g j ≤ g i then g j else g i) else g x
theorem mg_key {g : Nat → Nat} {i j : Nat} (hne : g i ≠ g j) : ∃ hi lo, (hi = g i ∧ lo = g j ∨ hi = g j ∧ lo = g i) ∧ lo < hi ∧ ∀ x, mg g i j x = if g x = hi then lo else g x := by
  by_cases c : g j ≤ g i
  · exact ⟨g i, g j, Or.inl ⟨rfl, rfl⟩, by omega, fun x => by unfold mg; rw [if_pos c, if_pos c]⟩
  · exact ⟨g j, g i, Or.inr ⟨rfl, rfl⟩, by omega, fun x => by unfold mg; rw [if_neg c, if_neg c]⟩
section MG
variable {A : Nat → Nat → Bool} {g : Nat → Nat} {i j : Nat}
theorem mg_ok (hs : ∀ i j, i < 8 → j < 8 → A i j = A j i) (hi : i < 8) (hj : j < 8) (ha : A i j = true) (hne : g i ≠ g j) (h : UF A g) : UF A (mg g i j) := by
  obtain ⟨hh, lo, ho, hl, hm⟩ := mg_key hne
  have gi := h.1 i hi
  have gj := h.1 j hj
  have glo : g lo = lo := by
    rcases ho with ⟨_, e⟩ | ⟨_, e⟩
    · rw [e]; exact gj.2
    · rw [e]; exact gi.2
  have cij : Conn A i j := Conn.st hi hj ha
  have hab : ∀ a b, a < 8 → b < 8 → g a = hh → lo = g b → Conn A a b := fun a b la lb ea eb => by
    rcases ho with ⟨e1, e2⟩ | ⟨e1, e2⟩
    · exact (h.2 a i la hi (ea.trans e1)).tr (cij.tr (h.2 j b hj lb (e2.symm.trans eb)))
    · exact (h.2 a j la hj (ea.trans e1)).tr ((cij.sy hs).tr (h.2 i b hi lb (e2.symm.trans eb)))
  refine ⟨fun a la => ?_, fun a b la lb e => ?_⟩
  · have ga := h.1 a la
    rw [hm a]
    by_cases e : g a = hh
    · rw [if_pos e, hm lo, glo, if_neg (by omega)]
      exact ⟨by omega, rfl⟩
    · rw [if_neg e, hm (g a), ga.2, if_neg e]
      exact ⟨ga.1, rfl⟩
  · rw [hm a, hm b] at e
    by_cases ea : g a = hh
    · rw [if_pos ea] at e
      by_cases eb : g b = hh
      · exact h.2 a b la lb (ea.trans eb.symm)
      · rw [if_neg eb] at e
        exact hab a b la lb ea e
    · rw [if_neg ea] at e
      by_cases eb : g b = hh
      · rw [if_pos eb] at e
        exact (hab b a lb la eb e.symm).sy hs
      · rw [if_neg eb] at e
        exact h.2 a b la lb e
theorem mg_keep {a b : Nat} (e : g a = g b) : mg g i j a = mg g i j b := by
  unfold mg
  rw [e]
theorem mg_join (hne : g i ≠ g j) : mg g i j i = mg g i j j := by
  obtain ⟨hh, lo, ho, hl, hm⟩ := mg_key hne
  rw [hm i, hm j]
  rcases ho with ⟨e1, e2⟩ | ⟨e1, e2⟩
  · rw [if_pos e1.symm, if_neg (by omega), e2]
  · rw [if_neg (by omega), if_pos e1.symm, e2]
theorem mg_cnt (hi : i < 8) (hj : j < 8) (hne : g i ≠ g j) (h : UF A g) : cnt (fun k => decide (mg g i j k = k)) 0 8 + 1 = cnt (fun k => decide (g k = k)) 0 8 := by
  obtain ⟨hh, lo, ho, hl, hm⟩ := mg_key hne
  have gi := h.1 i hi
  have gj := h.1 j hj
  have ghh : g hh = hh ∧ hh < 8 := by
    rcases ho with ⟨e, _⟩ | ⟨e, _⟩
    · rw [e]; exact ⟨gi.2, by omega⟩
    · rw [e]; exact ⟨gj.2, by omega⟩
  refine cnt_drop hh (decide_eq_true ghh.1) (decide_eq_false (by rw [hm hh, if_pos ghh.1]; omega)) 8 0 (by omega) (by omega) (fun x _ hx hxn => ?_)
  have gx := h.1 x (by omega)
  apply decide_eq_decide.mpr
  rw [hm x]
  by_cases e : g x = hh
  · rw [if_pos e]
    omega
  · rw [if_neg e]
/-- labels of a class of its own, told by the least -/
def GR (A : Nat → Nat → Bool) (g : Nat → Nat) : Prop := (∀ a, a < 8 → g a ≤ a ∧ g (g a) = g a) ∧ (∀ a b, a < 8 → b < 8 → (g a = g b ↔ Conn A a b))
theorem UF.gr (h : UF A g) (hp : ∀ a b, a < 8 → b < 8 → A a b = true → g a = g b) : GR A g := by
  refine ⟨h.1, fun a b la lb => ⟨h.2 a b la lb, fun q => ?_⟩⟩
  exact q (fun x => g a = g x) rfl (fun x y hx hy s e => s.trans (hp x y hx hy e))
theorem GR.uniq {g' : Nat → Nat} (h : GR A g) (h' : GR A g') {a : Nat} (ha : a < 8) : g a = g' a := by
  have h1 := h.1 a ha
  have h1' := h'.1 a ha
  have l1 : g a < 8 := by omega
  have l2 : g' a < 8 := by omega
  have c1 := (h'.2 (g' a) a l2 ha).mp h1'.2
  have e1 := (h.2 (g' a) a l2 ha).mpr c1
  have c2 := (h.2 (g a) a l1 ha).mp h1.2
  have e2 := (h'.2 (g a) a l1 ha).mpr c2
  have k1 := (h.1 (g' a) l2).1
  have k2 := (h'.1 (g a) l1).1
  omega
end MG
theorem it_relI {α β : Type} {f : Nat → α → α} {g : Nat → β → β} {P : Nat → α → β → Prop} (i0 N : Nat) (hs : ∀ i a b, i0 ≤ i → i < N → P i a b → P (i + 1) (f i a) (g i b)) : ∀ (n i : Nat) (a : α) (b : β), i0 ≤ i → i + n ≤ N → P i a b → P (i + n) (it f i n a) (it g i n b)
  | 0, i, a, b, _, _, h => by rw [it_0, it_0]; exact h
  | n + 1, i, a, b, h0, hi, h => by
    rw [it_s, it_s]
    have := it_relI i0 N hs n (i + 1) _ _ (by omega) (by omega) (hs i a b h0 (by omega) h)
    rw [show i + (n + 1) = i + 1 + n by omega]
    exact this
theorem it_map (F : Int32 → Int32) : ∀ (n i : Nat) (s : Nat → Int32) (j : Nat), it (fun k r => upd r k (F (r k))) i n s j = if i ≤ j ∧ j < i + n then F (s j) else s j := by
  intro n
  induction n with
  | zero => intro i s j; rw [it_0, if_neg (by omega)]
  | succ n ih =>
    intro i s j
    rw [it_s, ih]
    by_cases h : i + 1 ≤ j ∧ j < i + 1 + n
    · rw [if_pos h, if_pos (by omega), pk_un (by omega)]
    · rw [if_neg h]
      by_cases h2 : j = i
      · subst h2
        rw [pk_us, if_pos (by omega)]
      · rw [pk_un h2, if_neg (by omega)]
theorem near_sy (k o : Nat) : f_X6_near k o = f_X6_near o k := by
  unfold f_X6_near
  by_cases c : o ≤ k
  · by_cases c2 : k ≤ o
    · have e : k = o := by omega
      rw [e]
    · rw [if_pos c, if_neg c2]
  · rw [if_neg c, if_pos (by omega)]
theorem locked_sy (row : Nat → Int32) (i j : Nat) : f_X6_isLocked row i j = f_X6_isLocked row j i := by
  unfold f_X6_isLocked
  rw [near_sy i j]
  by_cases c : i = j
  · rw [if_pos c, if_pos c.symm]
  · have c2 : ¬ j = i := fun q => c q.symm
    rw [if_neg c, if_neg c2]
/-- what the labels of both hold of each other -/
def JP (row : Nat → Int32) (i j : Nat) (a : Int32 × (Nat → Int32)) (z : Nat → Int32) : Prop :=
  ∃ g : Nat → Nat, (∀ x, x < 8 → z x = nI (g x)) ∧ UF (f_X6_isLocked row) g ∧ (∀ x y, x < 8 → y < 8 → (a.2 x = a.2 y ↔ g x = g y)) ∧ a.1 = nI (cnt (fun k => decide (g k = k)) 0 8) ∧ (∀ x y, x < y → y < 8 → (x < i ∨ (x = i ∧ y < j)) → f_X6_isLocked row x y = true → g x = g y)
theorem join_at (l : Nat → Int32) (a b : Int32) {x : Nat} (hx : x < 8) : f_X4_join l a b x = if l x = b then a else l x := by
  unfold f_X4_join
  have e : it (L_X4_join_2 a b) 0 8 l = it (fun k r => upd r k ((fun v => if v = b then a else v) (r k))) 0 8 l := by
    refine it_cg 0 8 (fun i s _ _ => ?_) 8 0 l (by omega) (by omega)
    unfold L_X4_join_2
    dsimp only
    by_cases c : s i = b
    · rw [if_pos c, if_pos c]
    · rw [if_neg c, if_neg c]
      funext y
      by_cases e : y = i
      · rw [e, pk_us]
      · rw [pk_un e]
  rw [e]
  exact (it_map (fun v => if v = b then a else v) 8 0 l x).trans (if_pos (by omega))
section GROUPS
variable {bm sp ph sg st wy ks nt gv se : Nat → Int32} {tk kk sk : Int32} {pl ld : Nat → Int32} {row : Nat → Int32}
theorem dec8 (c : Nat) : nI (c + 1) + (-1 : Int32) = nI c := by
  rw [← nI_pred c, Int32.sub_eq_add_neg]
set_option maxHeartbeats 4000000 in
theorem join_step (h : Rel (bm, sp, ph, sg, st, wy, ks, nt, gv, se, tk, kk, sk, pl, ld) row) {i j : Nat} (hij : i < j) (hj : j < 8) {a : Int32 × (Nat → Int32)} {z : Nat → Int32} (hp : JP row i j a z) : JP row i (j + 1) (L_X4_groupsByJoining_36 nt se i j a) (L_X6_layGroups_33 row i j z) := by
  obtain ⟨g, hz, hu, hl, hc, hd⟩ := hp
  have hi : i < 8 := by omega
  have hsy : ∀ i j, i < 8 → j < 8 → f_X6_isLocked row i j = f_X6_isLocked row j i := fun i j _ _ => locked_sy row i j
  unfold L_X4_groupsByJoining_36 L_X6_layGroups_33
  rw [← r_locked h hi hj (by omega)]
  by_cases cl : f_X6_isLocked row i j = true
  · rw [if_pos cl, if_pos cl, if_pos cl]
    have gi := hu.1 i hi
    have gj := hu.1 j hj
    by_cases ce : g i = g j
    · rw [if_pos ((hl i j hi hj).mpr ce), if_pos ((hl i j hi hj).mpr ce), if_pos (by rw [hz i hi, hz j hj, ce])]
      refine ⟨g, hz, hu, hl, hc, fun x y hxy hy hq hlk => ?_⟩
      by_cases e : x = i ∧ y = j
      · rw [e.1, e.2]; exact ce
      · exact hd x y hxy hy (by omega) hlk
    · have cn : ¬ a.2 i = a.2 j := fun q => ce ((hl i j hi hj).mp q)
      have cz : ¬ z i = z j := fun q => ce (by rw [hz i hi, hz j hj] at q; exact (nI_eq (by omega) (by omega)).mp q)
      rw [if_neg cn, if_neg cn, if_neg cz]
      refine ⟨mg g i j, fun x hx => ?_, mg_ok hsy hi hj cl ce hu, fun x y hx hy => ?_, ?_, fun x y hxy hy hq hlk => ?_⟩
      · have e : it (L_X6_layGroups_130 i j z) 0 8 z x = (fun v => if v = (if (z j) ≤ (z i) then (z i) else (z j)) then (if (z j) ≤ (z i) then (z j) else (z i)) else v) (z x) := (it_map (fun v => if v = (if (z j) ≤ (z i) then (z i) else (z j)) then (if (z j) ≤ (z i) then (z j) else (z i)) else v) 8 0 z x).trans (if_pos (by omega))
        rw [e]
        dsimp only
        have gx := hu.1 x hx
        rw [hz x hx, hz i hi, hz j hj]
        unfold mg
        by_cases c : g j ≤ g i
        · rw [if_pos ((nI_leI (by omega) (by omega)).mpr c), if_pos ((nI_leI (by omega) (by omega)).mpr c), if_pos c, if_pos c]
          by_cases c2 : g x = g i
          · rw [if_pos c2, if_pos (by rw [c2])]
          · rw [if_neg c2, if_neg (fun q => c2 ((nI_eq (by omega) (by omega)).mp q))]
        · have c' : ¬ nI (g j) ≤ nI (g i) := fun q => c ((nI_leI (by omega) (by omega)).mp q)
          rw [if_neg c', if_neg c', if_neg c, if_neg c]
          by_cases c2 : g x = g j
          · rw [if_pos c2, if_pos (by rw [c2])]
          · rw [if_neg c2, if_neg (fun q => c2 ((nI_eq (by omega) (by omega)).mp q))]
      · show f_X4_join a.2 (a.2 i) (a.2 j) x = f_X4_join a.2 (a.2 i) (a.2 j) y ↔ _
        rw [join_at _ _ _ hx, join_at _ _ _ hy]
        obtain ⟨hh, lo, ho, hlo, hm⟩ := mg_key ce
        rw [hm x, hm y]
        have lx := hl x j hx hj
        have ly := hl y j hy hj
        have lxi := hl x i hx hi
        have lyi := hl y i hy hi
        have lxy := hl x y hx hy
        by_cases cx : g x = g j
        · rw [if_pos (lx.mpr cx)]
          by_cases cy : g y = g j
          · rw [if_pos (ly.mpr cy), cx, cy]
            exact ⟨fun _ => rfl, fun _ => rfl⟩
          · rw [if_neg (fun q => cy (ly.mp q))]
            have e : (a.2 i = a.2 y) ↔ g y = g i := ⟨fun q => lyi.mp q.symm, fun q => (lyi.mpr q).symm⟩
            rw [e]
            rcases ho with ⟨e1, e2⟩ | ⟨e1, e2⟩
            · by_cases c3 : g y = g i
              · rw [if_neg (by omega), if_pos (by omega)]; omega
              · rw [if_neg (by omega), if_neg (by omega)]; omega
            · by_cases c3 : g y = g i
              · rw [if_pos (by omega), if_neg (by omega)]; omega
              · rw [if_pos (by omega), if_neg (by omega)]; omega
        · rw [if_neg (fun q => cx (lx.mp q))]
          by_cases cy : g y = g j
          · rw [if_pos (ly.mpr cy), lxi]
            rcases ho with ⟨e1, e2⟩ | ⟨e1, e2⟩
            · by_cases c3 : g x = g i
              · rw [if_pos (by omega), if_neg (by omega)]; omega
              · rw [if_neg (by omega), if_neg (by omega)]; omega
            · by_cases c3 : g x = g i
              · rw [if_neg (by omega), if_pos (by omega)]; omega
              · rw [if_neg (by omega), if_pos (by omega)]; omega
          · rw [if_neg (fun q => cy (ly.mp q)), lxy]
            rcases ho with ⟨e1, e2⟩ | ⟨e1, e2⟩
            · by_cases c3 : g x = g i
              · by_cases c4 : g y = g i
                · rw [if_pos (by omega), if_pos (by omega)]; omega
                · rw [if_pos (by omega), if_neg (by omega)]; omega
              · by_cases c4 : g y = g i
                · rw [if_neg (by omega), if_pos (by omega)]; omega
                · rw [if_neg (by omega), if_neg (by omega)]
            · rw [if_neg (by omega), if_neg (by omega)]
      · show a.1 + (-1 : Int32) = _
        rw [hc, ← mg_cnt hi hj ce hu]
        exact dec8 _
      · by_cases e : x = i ∧ y = j
        · rw [e.1, e.2]; exact mg_join ce
        · exact mg_keep (hd x y hxy hy (by omega) hlk)
  · rw [if_neg cl, if_neg cl, if_neg cl]
    refine ⟨g, hz, hu, hl, hc, fun x y hxy hy hq hlk => ?_⟩
    by_cases e : x = i ∧ y = j
    · rw [e.1, e.2] at hlk; exact absurd hlk cl
    · exact hd x y hxy hy (by omega) hlk
theorem join_all (h : Rel (bm, sp, ph, sg, st, wy, ks, nt, gv, se, tk, kk, sk, pl, ld) row) (l grp : Nat → Int32) : JP row 8 0 (f_X4_groupsByJoining nt se l) (f_X6_layGroups grp row) := by
  unfold f_X4_groupsByJoining f_X6_layGroups
  refine it_relI (P := fun i a z => JP row i 0 a z) 0 8 (fun i a z _ hi hp => ?_) 8 0 _ _ (by omega) (by omega) ?_
  · unfold L_X4_groupsByJoining_26 L_X6_layGroups_23
    have hp1 : JP row i (i + 1) a z := by
      obtain ⟨g, hz, hu, hl, hc, hd⟩ := hp
      exact ⟨g, hz, hu, hl, hc, fun x y hxy hy hq hlk => hd x y hxy hy (by omega) hlk⟩
    have hp2 := it_relI (P := fun j a z => JP row i j a z) (i + 1) 8 (fun j a z hij hj hp => join_step h (by omega) hj hp) (8 - (i + 1)) (i + 1) a z (by omega) (by omega) hp1
    obtain ⟨g, hz, hu, hl, hc, hd⟩ := hp2
    exact ⟨g, hz, hu, hl, hc, fun x y hxy hy hq hlk => hd x y hxy hy (by omega) hlk⟩
  · have e4 : ∀ x, x < 8 → it L_X4_groupsByJoining_2 0 8 l x = nI x := fun x hx => (it_upd nI 8 0 l x).trans (if_pos (by omega))
    have e6 : ∀ x, x < 8 → it L_X6_layGroups_2 0 8 grp x = nI x := fun x hx => (it_upd nI 8 0 grp x).trans (if_pos (by omega))
    refine ⟨fun x => x, e6, ⟨fun a _ => ⟨Nat.le_refl a, rfl⟩, fun a b _ _ e => by rw [show a = b from e]; exact Conn.rf _ b⟩, fun x y hx hy => ?_, show (8 : Int32) = nI (cnt (fun k => decide ((fun x => x) k = k)) 0 8) by decide +kernel, fun x y _ _ hq => by omega⟩
    show it L_X4_groupsByJoining_2 0 8 l x = it L_X4_groupsByJoining_2 0 8 l y ↔ x = y
    rw [e4 x hx, e4 y hy]
    exact nI_eq (by omega) (by omega)
/-- the labels by which both tell groups -/
theorem r_lay (h : Rel (bm, sp, ph, sg, st, wy, ks, nt, gv, se, tk, kk, sk, pl, ld) row) : ∃ g : Nat → Nat, GR (f_X6_isLocked row) g ∧ (∀ grp a, a < 8 → f_X6_layGroups grp row a = nI (g a)) ∧ (∀ l, (f_X4_groupsByJoining nt se l).1 = nI (cnt (fun k => decide (g k = k)) 0 8)) := by
  have hall : ∀ l grp, ∃ g : Nat → Nat, (∀ x, x < 8 → f_X6_layGroups grp row x = nI (g x)) ∧ GR (f_X6_isLocked row) g ∧ (f_X4_groupsByJoining nt se l).1 = nI (cnt (fun k => decide (g k = k)) 0 8) := fun l grp => by
    obtain ⟨g, hz, hu, hl, hc, hd⟩ := join_all h l grp
    refine ⟨g, hz, hu.gr (fun a b ha hb e => ?_), hc⟩
    by_cases c : a < b
    · exact hd a b c hb (by omega) e
    · by_cases c2 : b < a
      · exact (hd b a c2 ha (by omega) (by rw [locked_sy]; exact e)).symm
      · have e3 : a = b := by omega
        rw [e3]
  obtain ⟨g, hz, hg, hc⟩ := hall (fun _ => 0) (fun _ => 0)
  refine ⟨g, hg, fun grp a ha => ?_, fun l => ?_⟩
  · obtain ⟨g', hz', hg', hc'⟩ := hall (fun _ => 0) grp
    rw [hz' a ha, hg.uniq hg' ha]
  · obtain ⟨g', hz', hg', hc'⟩ := hall l (fun _ => 0)
    rw [hc']
    congr 1
    refine cnt_cg 8 0 (fun x _ hx => ?_)
    show decide (g' x = x) = decide (g x = x)
    rw [hg.uniq hg' (by omega)]
end GROUPS
