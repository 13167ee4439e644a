/-! the whole text: its first error, whether it is complete, orders done -/
section RUN
variable {codes codes' : Nat → Int32} {len : Nat}
theorem same_rf (codes : Nat → Int32) (len : Nat) : Same codes codes len := fun _ _ => rfl
theorem ps_t {a b : Bool × S5} (h : PS a b) (ha : a.1 = true) : b.1 = true ∧ PR a.2 b.2 := by
  rcases h with ⟨h1, h2⟩ | ⟨h1, h2, h3⟩
  · rw [ha] at h1; cases h1
  · exact ⟨h2, h3⟩
theorem ps_f {a b : Bool × S5} (h : PS a b) (ha : a.1 = false) : b.1 = false := by
  rcases h with ⟨h1, h2⟩ | ⟨h1, h2, h3⟩
  · exact h2
  · rw [ha] at h1; cases h1
theorem run_pr (hl : len ≤ 60) (hc : ∀ j, j < len → codes j = codes' j) : ∀ (n i : Nat) (s s' : S5), PR s s' → i + n ≤ len → (∃ t t', itx (L_X3_indexOfError_6 codes len) i n s = .inl t ∧ itx (L_X3_indexOfError_6 codes' len) i n s' = .inl t' ∧ PR t t') ∨ (∃ j t t', j < len ∧ itx (L_X3_indexOfError_6 codes len) i n s = .inr (nI j, t) ∧ itx (L_X3_indexOfError_6 codes' len) i n s' = .inr (nI j, t')) := by
  intro n
  induction n with
  | zero => intro i s s' h _; rw [itx_0, itx_0]; exact Or.inl ⟨s, s', rfl, rfl, h⟩
  | succ n ih =>
    intro i s s' h hi
    have hp := PR_step h (codes i)
    cases e : (f5 s (codes i)).1
    · have e' := ps_f hp e
      obtain ⟨t, ht⟩ := l6_no (same_rf codes len) hl (j := i) (by omega) (s := s) e
      obtain ⟨t', ht'⟩ := l6_no (same_rf codes' len) hl (j := i) (by omega) (s := s') (by rw [← hc i (by omega)]; exact e')
      exact Or.inr ⟨i, t, t', by omega, itx_r _ _ _ _ _ ht, itx_r _ _ _ _ _ ht'⟩
    · obtain ⟨e', hp'⟩ := ps_t hp e
      have h1 : f5 s (codes i) = (true, (f5 s (codes i)).2) := by rw [← e]
      have h2 : f5 s' (codes' i) = (true, (f5 s' (codes i)).2) := by rw [← hc i (by omega), ← e']
      rw [itx_l _ _ _ _ _ (l6_ok (same_rf codes len) hl (by omega) h1), itx_l _ _ _ _ _ (l6_ok (same_rf codes' len) hl (by omega) h2)]
      exact ih (i + 1) _ _ hp' (by omega)
/-- the error's place, read from empty hands -/
def erZ (codes : Nat → Int32) (len : Nat) : Int32 := (f_X3_indexOfError codes len 0 0 false 0).1
def cmZ (codes : Nat → Int32) (len : Nat) : Bool := (f_X3_isComplete codes len 0 0 false 0).1
theorem er_eq (hl : len ≤ 60) (hc : ∀ j, j < len → codes j = codes' j) (L K N : Int32) (B : Bool) : (f_X3_indexOfError codes len L K B N).1 = erZ codes' len ∧ ((f_X3_indexOfError codes len L K B N).1 = nI len → (f_X3_indexOfError codes len L K B N).2.1 = (f_X3_indexOfError codes' len 0 0 false 0).2.1 ∧ ∃ t, itx (L_X3_indexOfError_6 codes len) 0 len (0, L, K, B, N) = .inl t ∧ t.1 = (f_X3_indexOfError codes len L K B N).2.1) := by
  unfold erZ f_X3_indexOfError
  rcases run_pr hl hc len 0 (f_X3_startReading, L, K, B, N) (f_X3_startReading, 0, 0, false, 0) (Or.inl ⟨rfl, rfl⟩) (by omega) with ⟨t, t', h1, h2, h3⟩ | ⟨j, t, t', hj, h1, h2⟩
  · rw [h1, h2]
    exact ⟨rfl, fun _ => ⟨PR_due h3, t, h1, rfl⟩⟩
  · rw [h1, h2]
    refine ⟨rfl, fun q => ?_⟩
    have q : nI j = nI len := q
    have := (nI_eq (by omega) (by omega)).mp q
    omega
theorem cmp_eq (hl : len ≤ 60) (hc : ∀ j, j < len → codes j = codes' j) (L K N : Int32) (B : Bool) : (f_X3_isComplete codes len L K B N).1 = cmZ codes' len := by
  obtain ⟨h1, h2⟩ := er_eq hl hc L K N B
  unfold cmZ f_X3_isComplete
  unfold erZ at h1
  by_cases c : (f_X3_indexOfError codes len L K B N).1 = nI len
  · have e := (h2 c).1
    show (if (f_X3_indexOfError codes len L K B N).1 = nI len then _ else _) = (if (f_X3_indexOfError codes' len 0 0 false 0).1 = nI len then _ else _)
    have c' : (f_X3_indexOfError codes' len 0 0 false 0).1 = nI len := by rw [← h1]; exact c
    rw [if_pos c, if_pos c', e]
  · show (if (f_X3_indexOfError codes len L K B N).1 = nI len then _ else _) = (if (f_X3_indexOfError codes' len 0 0 false 0).1 = nI len then _ else _)
    rw [if_neg c, if_neg (by rw [← h1]; exact c)]
/-- what is left of the text is read to its end, and ends well -/
def GC (codes : Nat → Int32) (len i : Nat) (s : S5) : Prop := ∃ t, itx (L_X3_indexOfError_6 codes len) i (len - i) s = .inl t ∧ (t.1 = 5 ∨ t.1 = 6)
theorem cm_gc (hl : len ≤ 60) {L K N : Int32} {B : Bool} (h : (f_X3_isComplete codes len L K B N).1 = true) (L' K' N' : Int32) (B' : Bool) : GC codes len 0 (0, L', K', B', N') := by
  have hc : ∀ j, j < len → codes j = codes j := fun _ _ => rfl
  rw [cmp_eq hl hc L K N B, ← cmp_eq hl hc L' K' N' B'] at h
  unfold f_X3_isComplete at h
  have h : (if (f_X3_indexOfError codes len L' K' B' N').1 = nI len then (if (f_X3_indexOfError codes len L' K' B' N').2.1 = 6 then true else (if (f_X3_indexOfError codes len L' K' B' N').2.1 = 5 then true else false)) else false) = true := h
  by_cases c : (f_X3_indexOfError codes len L' K' B' N').1 = nI len
  · rw [if_pos c] at h
    obtain ⟨_, t, h1, h2⟩ := (er_eq hl hc L' K' N' B').2 c
    refine ⟨t, h1, ?_⟩
    rw [h2]
    by_cases c6 : (f_X3_indexOfError codes len L' K' B' N').2.1 = 6
    · exact Or.inr c6
    · rw [if_neg c6] at h
      by_cases c5 : (f_X3_indexOfError codes len L' K' B' N').2.1 = 5
      · exact Or.inl c5
      · rw [if_neg c5] at h
        cases h
  · rw [if_neg c] at h
    cases h
theorem gc_step (hl : len ≤ 60) {i : Nat} (hi : i < len) {s s' : S5} (hp : PR s s') (h : GC codes len i s) : (f5 s (codes i)).1 = true ∧ GC codes len (i + 1) (f5 s (codes i)).2 ∧ PR (f5 s (codes i)).2 (f5 s' (codes i)).2 ∧ (f_X3_endsOrderBehind codes len (nI i) = true → (f5 s (codes i)).2.1 = 5 ∨ (f5 s (codes i)).2.1 = 6) := by
  obtain ⟨t, h1, h2⟩ := h
  have hs := PR_step hp (codes i)
  rw [show len - i = len - (i + 1) + 1 by omega] at h1
  cases e : (f5 s (codes i)).1
  · obtain ⟨u, hu⟩ := l6_no (same_rf codes len) hl (j := i) hi (s := s) e
    rw [itx_r _ _ _ _ _ hu] at h1
    cases h1
  · have e1 : f5 s (codes i) = (true, (f5 s (codes i)).2) := by rw [← e]
    rw [itx_l _ _ _ _ _ (l6_ok (same_rf codes len) hl hi e1)] at h1
    have hp2 := (ps_t hs e).2
    refine ⟨rfl, ⟨t, h1, h2⟩, hp2, fun hE => ?_⟩
    by_cases c : i + 1 < len
    · have hse : codes (i + 1) = 59 := by
        by_cases c2 : codes (i + 1) = 59
        · exact c2
        · rw [ends_no (same_rf codes len) hl c c2] at hE
          cases hE
      refine PR_semi hp2 ?_
      rw [show len - (i + 1) = len - (i + 1 + 1) + 1 by omega] at h1
      cases e3 : (f5 (f5 s (codes i)).2 (codes (i + 1))).1
      · obtain ⟨u, hu⟩ := l6_no (same_rf codes len) hl (j := i + 1) c (s := (f5 s (codes i)).2) e3
        rw [itx_r _ _ _ _ _ hu] at h1
        cases h1
      · rw [← hse]
        exact e3
    · rw [show len - (i + 1) = 0 by omega, itx_0] at h1
      cases h1
      exact h2
end RUN
/-! orders done -/
def kkZ (z : StT) (k : Nat) (v : Int32) : StT := (zbm z, zsp z, (f_X4_kickBy (zph z) (zks z) (zkk z) k v).1, zsg z, zst z, zwy z, (f_X4_kickBy (zph z) (zks z) (zkk z) k v).2.1, znt z, zgv z, zse z, ztk z, (f_X4_kickBy (zph z) (zks z) (zkk z) k v).2.2, zsk z, Z0, Z0)
def mvZ (z : StT) (k : Nat) (b : Int32) : StT := ((f_X4_hangOn (zbm z) (znt z) k b).1, zsp z, zph z, zsg z, zst z, zwy z, zks z, (f_X4_hangOn (zbm z) (znt z) k b).2, zgv z, zse z, ztk z, zkk z, zsk z, Z0, Z0)
def wdZ (z : StT) (k : Nat) : StT := (zbm z, zsp z, zph z, f_X4_windUp (zsg z) k, zst z, zwy z, zks z, znt z, zgv z, zse z, ztk z, zkk z, zsk z, Z0, Z0)
def doZ (z : StT) (L K : Int32) (B : Bool) (N : Int32) : Bool × StT :=
  if L = 98 then (if f_X5_isBeam N = true then (if f_X4_hangsOn (zbm z) K.toNatClampNeg N = true then (false, z) else (true, mvZ z K.toNatClampNeg N)) else (false, z))
  else if L = 107 then (true, kkZ z K.toNatClampNeg (if B = true then (-N) else N)) else if L = 119 then (true, wdZ z K.toNatClampNeg) else (true, tks N.toNatClampNeg z)
def cz (sp gv se : Nat → Int32) (Z : Z11) : StT := (Z.1, sp, Z.2.1, Z.2.2.1, Z.2.2.2.1, Z.2.2.2.2.1, Z.2.2.2.2.2.1, Z.2.2.2.2.2.2.1, gv, se, Z.2.2.2.2.2.2.2.1, Z.2.2.2.2.2.2.2.2.1, Z.2.2.2.2.2.2.2.2.2.1, Z0, Z0)
theorem do_cz (sp gv se : Nat → Int32) (Z : Z11) (L K : Int32) (B : Bool) (N : Int32) : (doO sp gv se Z L K B N).1 = (doZ (cz sp gv se Z) L K B N).1 ∧ cz sp gv se (doO sp gv se Z L K B N).2 = (doZ (cz sp gv se Z) L K B N).2 := by
  obtain ⟨bm, ph, sg, st, wy, ks, nt, tk, kk, sk, pl⟩ := Z
  unfold doO f_X5_doesOrder doZ
  by_cases c1 : L = 98
  · rw [if_pos c1, if_pos c1]
    by_cases c2 : f_X5_isBeam N = true
    · rw [if_pos c2, if_pos c2]
      by_cases c3 : f_X4_hangsOn bm K.toNatClampNeg N = true
      · have c3' : f_X4_hangsOn (zbm (cz sp gv se (bm, ph, sg, st, wy, ks, nt, tk, kk, sk, pl))) K.toNatClampNeg N = true := c3
        rw [if_pos c3, if_pos c3']
        exact ⟨rfl, rfl⟩
      · have c3' : ¬ f_X4_hangsOn (zbm (cz sp gv se (bm, ph, sg, st, wy, ks, nt, tk, kk, sk, pl))) K.toNatClampNeg N = true := c3
        rw [if_neg c3, if_neg c3']
        exact ⟨rfl, rfl⟩
    · rw [if_neg c2, if_neg c2]
      exact ⟨rfl, rfl⟩
  · rw [if_neg c1, if_neg c1]
    by_cases c2 : L = 107
    · rw [if_pos c2, if_pos c2]
      exact ⟨rfl, rfl⟩
    · rw [if_neg c2, if_neg c2]
      by_cases c3 : L = 119
      · rw [if_pos c3, if_pos c3]
        exact ⟨rfl, rfl⟩
      · rw [if_neg c3, if_neg c3]
        refine ⟨rfl, ?_⟩
        have h := lp_eq (bm := bm) (sp := sp) (ph := ph) (sg := sg) (st := st) (wy := wy) (ks := ks) (nt := nt) (gv := gv) (se := se) (tk := tk) (kk := kk) (sk := sk) pl N
        have h2 := congrArg (fun a : Int32 × StT => a.2) h
        exact h2
/-- orders done from the place i on, n characters yet -/
def obr (codes : Nat → Int32) (len : Nat) : Nat → Nat → S5 → Int32 → StT → Int32 × StT
  | 0, _, _, dn, z => (dn, z)
  | n + 1, i, s, dn, z => if f_X3_endsOrderBehind codes len (nI i) = true then
      (if (doZ z (f5 s (codes i)).2.2.1 (f5 s (codes i)).2.2.2.1 (f5 s (codes i)).2.2.2.2.1 (f5 s (codes i)).2.2.2.2.2).1 = true then obr codes len n (i + 1) (f5 s (codes i)).2 (dn + 1) (doZ z (f5 s (codes i)).2.2.1 (f5 s (codes i)).2.2.2.1 (f5 s (codes i)).2.2.2.2.1 (f5 s (codes i)).2.2.2.2.2).2
        else (dn, (doZ z (f5 s (codes i)).2.2.1 (f5 s (codes i)).2.2.2.1 (f5 s (codes i)).2.2.2.2.1 (f5 s (codes i)).2.2.2.2.2).2))
    else obr codes len n (i + 1) (f5 s (codes i)).2 dn z
abbrev T18 : Type := Int32 × Int32 × (Nat → Int32) × (Nat → Int32) × (Nat → Int32) × (Nat → Int32) × (Nat → Int32) × (Nat → Int32) × (Nat → Int32) × Int32 × Int32 × Int32 × (Nat → Int32) × Nat × Int32 × Int32 × Bool × Int32
/-- the outcome beside what orders leave alone -/
def c18 (sp gv se : Nat → Int32) (S : T18) : Int32 × StT := (S.2.1, (S.2.2.1, sp, S.2.2.2.1, S.2.2.2.2.1, S.2.2.2.2.2.1, S.2.2.2.2.2.2.1, S.2.2.2.2.2.2.2.1, S.2.2.2.2.2.2.2.2.1, gv, se, S.2.2.2.2.2.2.2.2.2.1, S.2.2.2.2.2.2.2.2.2.2.1, S.2.2.2.2.2.2.2.2.2.2.2.1, Z0, Z0))
theorem c18_mk (sp gv se : Nat → Int32) (d n : Int32) (Z : Z11) (s : S5) : c18 sp gv se (mk44 d n Z s) = (n, cz sp gv se Z) := rfl
theorem stop44p (sp gv se codes : Nat → Int32) (len m a : Nat) (q : Int32) (Z : Z11) (s : S5) : unx (itx (L_X5_obey_44 sp gv se codes len) a m (mk44 0 q Z s)) = mk44 0 q Z s := by
  cases m with
  | zero => rw [itx_0]; rfl
  | succ m => rw [itx_r _ _ _ _ _ (o44_0 (sp := sp) (gv := gv) (se := se) (codes := codes) (len := len) (i := a) (Z := Z) (s := s) q)]; rfl
theorem obr_eq {sp gv se codes : Nat → Int32} {len : Nat} (hl : len ≤ 60) : ∀ (n i : Nat) (dn : Int32) (Z : Z11) (s : S5), i + n = len → c18 sp gv se (unx (itx (L_X5_obey_44 sp gv se codes len) i n (mk44 1 dn Z s))) = obr codes len n i s dn (cz sp gv se Z) := by
  intro n
  induction n with
  | zero => intro i dn Z s _; rw [itx_0]; rfl
  | succ n ih =>
    intro i dn Z s hi
    have hc : f_X3_codeAt codes len (nI i) = codes i := codeAt_eq (same_rf codes len) hl (by omega)
    cases c : f_X3_endsOrderBehind codes len (nI i)
    · have e := o44_no (sp := sp) (gv := gv) (se := se) (n := dn) (Z := Z) (s := s) c
      rw [itx_l _ _ _ _ _ e, hc, ih (i + 1) dn Z _ (by omega)]
      show _ = if f_X3_endsOrderBehind codes len (nI i) = true then _ else _
      rw [if_neg (by rw [c]; decide)]
    · have e := o44_do (sp := sp) (gv := gv) (se := se) (n := dn) (Z := Z) (s := s) (D := (f5 s (codes i)).2.1) (L := (f5 s (codes i)).2.2.1) (K := (f5 s (codes i)).2.2.2.1) (B := (f5 s (codes i)).2.2.2.2.1) (N := (f5 s (codes i)).2.2.2.2.2) c (by rw [hc])
      obtain ⟨d1, d2⟩ := do_cz sp gv se Z (f5 s (codes i)).2.2.1 (f5 s (codes i)).2.2.2.1 (f5 s (codes i)).2.2.2.2.1 (f5 s (codes i)).2.2.2.2.2
      rw [itx_l _ _ _ _ _ e]
      show _ = if f_X3_endsOrderBehind codes len (nI i) = true then _ else _
      rw [if_pos c, ← d1, ← d2]
      cases cd : (doO sp gv se Z (f5 s (codes i)).2.2.1 (f5 s (codes i)).2.2.2.1 (f5 s (codes i)).2.2.2.2.1 (f5 s (codes i)).2.2.2.2.2).1
      · show c18 sp gv se (unx (itx (L_X5_obey_44 sp gv se codes len) (i + 1) n (mk44 0 (dn + 0) _ _))) = _
        rw [stop44p, c18_mk, Int32.add_zero, if_neg (by decide)]
      · show c18 sp gv se (unx (itx (L_X5_obey_44 sp gv se codes len) (i + 1) n (mk44 1 (dn + 1) _ _))) = _
        rw [ih (i + 1) (dn + 1) _ _ (by omega), if_pos rfl]
/-- what orders do hangs on the text alone -/
theorem doZ_pr {s s' : S5} (hp : PR s s') (hd : s.1 = 5 ∨ s.1 = 6) (z : StT) : doZ z s.2.1 s.2.2.1 s.2.2.2.1 s.2.2.2.2 = doZ z s'.2.1 s'.2.2.1 s'.2.2.2.1 s'.2.2.2.2 := by
  rcases hp with ⟨h0, h0'⟩ | ⟨L, K, K', N, N', B, B', e1, e2, hL⟩ | ⟨K, N, N', B, B', e1, e2, hK⟩ | ⟨K, N, N', B, B', e1, e2, hK⟩ | ⟨K, N, N', B, e1, e2, hK⟩ | ⟨K, K', N, N', B, B', e1, e2⟩ | ⟨K, N, B, e1, e2, hK, hN⟩ | ⟨K, K', N, B, B', e1, e2, hN⟩ | ⟨K, N, B, B', e1, e2, hK⟩ | ⟨K, N, N', B, B', e1, e2, hK⟩
  · omega
  · rw [e1] at hd; exact absurd hd (by decide : ¬ ((1 : Nat) = 5 ∨ (1 : Nat) = 6))
  · rw [e1] at hd; exact absurd hd (by decide : ¬ ((2 : Nat) = 5 ∨ (2 : Nat) = 6))
  · rw [e1] at hd; exact absurd hd (by decide : ¬ ((3 : Nat) = 5 ∨ (3 : Nat) = 6))
  · rw [e1] at hd; exact absurd hd (by decide : ¬ ((4 : Nat) = 5 ∨ (4 : Nat) = 6))
  · rw [e1] at hd; exact absurd hd (by decide : ¬ ((4 : Nat) = 5 ∨ (4 : Nat) = 6))
  · rw [e1, e2]
  · subst e1
    subst e2
    show doZ z 116 K B N = doZ z 116 K' B' N
    unfold doZ
    rw [if_neg (by decide), if_neg (by decide), if_neg (by decide), if_neg (by decide), if_neg (by decide), if_neg (by decide)]
  · subst e1
    subst e2
    show doZ z 98 K B N = doZ z 98 K B' N
    unfold doZ
    rw [if_pos rfl, if_pos rfl]
  · subst e1
    subst e2
    show doZ z 119 K B N = doZ z 119 K B' N'
    unfold doZ
    rw [if_neg (by decide), if_neg (by decide), if_pos rfl, if_neg (by decide), if_neg (by decide), if_pos rfl]
theorem ends_c {codes codes' : Nat → Int32} {len : Nat} (hl : len ≤ 60) (hc : ∀ j, j < len → codes j = codes' j) {i : Nat} (hi : i < len) : f_X3_endsOrderBehind codes len (nI i) = f_X3_endsOrderBehind codes' len (nI i) := by
  unfold f_X3_endsOrderBehind
  rw [nI_1]
  by_cases c : i + 1 < len
  · rw [codeAt_eq (same_rf codes len) hl c, codeAt_eq (same_rf codes' len) hl c, hc _ c]
  · rw [if_pos (nI_le (by omega) (by omega)), if_pos (nI_le (by omega) (by omega))]
theorem obr_pr {codes codes' : Nat → Int32} {len : Nat} (hl : len ≤ 60) (hc : ∀ j, j < len → codes j = codes' j) : ∀ (n i : Nat) (s s' : S5) (dn : Int32) (z : StT), i + n = len → PR s s' → GC codes len i s → obr codes len n i s dn z = obr codes' len n i s' dn z := by
  intro n
  induction n with
  | zero => intro i s s' dn z _ _ _; rfl
  | succ n ih =>
    intro i s s' dn z hi hp hg
    obtain ⟨g1, g2, g3, g4⟩ := gc_step hl (show i < len by omega) hp hg
    have e1 : obr codes len (n + 1) i s dn z = if f_X3_endsOrderBehind codes len (nI i) = true then
      (if (doZ z (f5 s (codes i)).2.2.1 (f5 s (codes i)).2.2.2.1 (f5 s (codes i)).2.2.2.2.1 (f5 s (codes i)).2.2.2.2.2).1 = true then obr codes len n (i + 1) (f5 s (codes i)).2 (dn + 1) (doZ z (f5 s (codes i)).2.2.1 (f5 s (codes i)).2.2.2.1 (f5 s (codes i)).2.2.2.2.1 (f5 s (codes i)).2.2.2.2.2).2
        else (dn, (doZ z (f5 s (codes i)).2.2.1 (f5 s (codes i)).2.2.2.1 (f5 s (codes i)).2.2.2.2.1 (f5 s (codes i)).2.2.2.2.2).2))
      else obr codes len n (i + 1) (f5 s (codes i)).2 dn z := rfl
    have e2 : obr codes' len (n + 1) i s' dn z = if f_X3_endsOrderBehind codes' len (nI i) = true then
      (if (doZ z (f5 s' (codes' i)).2.2.1 (f5 s' (codes' i)).2.2.2.1 (f5 s' (codes' i)).2.2.2.2.1 (f5 s' (codes' i)).2.2.2.2.2).1 = true then obr codes' len n (i + 1) (f5 s' (codes' i)).2 (dn + 1) (doZ z (f5 s' (codes' i)).2.2.1 (f5 s' (codes' i)).2.2.2.1 (f5 s' (codes' i)).2.2.2.2.1 (f5 s' (codes' i)).2.2.2.2.2).2
        else (dn, (doZ z (f5 s' (codes' i)).2.2.1 (f5 s' (codes' i)).2.2.2.1 (f5 s' (codes' i)).2.2.2.2.1 (f5 s' (codes' i)).2.2.2.2.2).2))
      else obr codes' len n (i + 1) (f5 s' (codes' i)).2 dn z := rfl
    rw [e1, e2, ← hc i (by omega), ← ends_c hl hc (show i < len by omega)]
    by_cases c : f_X3_endsOrderBehind codes len (nI i) = true
    · rw [if_pos c, if_pos c, ← doZ_pr g3 (g4 c) z, ih (i + 1) _ _ (dn + 1) _ (by omega) g3 g2]
    · rw [if_neg c, if_neg c, ih (i + 1) _ _ dn z (by omega) g3 g2]
/-! what orders keep -/
theorem fm_rng {x : Int32} (h1 : -500 ≤ x.toInt) (h2 : x.toInt < 1500) : 0 ≤ (f_J9_floorMod_7cf53 x 1000).toInt ∧ (f_J9_floorMod_7cf53 x 1000).toInt < 1000 := by
  obtain ⟨e, h3, h4⟩ := fm_eq h1 h2
  rw [e]
  exact ⟨h3, h4⟩
theorem fm_cong_key : ∀ n : Nat, n < 2000 → ((((n : Int) - 500) - (rmod (Int32.ofInt ((n : Int) - 500))).toInt) % 1000 == 0) = true := by decide +kernel
theorem fm_cong {x : Int32} (h1 : -500 ≤ x.toInt) (h2 : x.toInt < 1500) : ∃ c : Int, x.toInt - (f_J9_floorMod_7cf53 x 1000).toInt = 1000 * c := by
  obtain ⟨e, h3, h4⟩ := fm_eq h1 h2
  rw [e]
  have hx : x = Int32.ofInt (((x.toInt + 500).toNat : Int) - 500) := by
    rw [show (((x.toInt + 500).toNat : Int) - 500) = x.toInt by omega, Int32.ofInt_toInt]
  have key := fm_cong_key (x.toInt + 500).toNat (by omega)
  rw [← hx] at key
  have key := beq_iff_eq.mp key
  refine ⟨(x.toInt - (rmod x).toInt) / 1000, ?_⟩
  omega
set_option maxHeartbeats 4000000 in
theorem IZ_kick {b : Nat} (hb : b ≤ 1000000) {z : StT} (h : IZ b z) {k : Nat} (hk : k < 8) {v : Int32} (hv : -500 ≤ v.toInt ∧ v.toInt ≤ 500) : IZ (b + 1) (kkZ z k v) := by
  obtain ⟨bm, sp, ph, sg, st, wy, ks, nt, gv, se, tk, kk, sk, pl, ld⟩ := z
  obtain ⟨h1, h2, h3, h4, h5, h6, h7⟩ := h
  have h3 : ∀ k, k < 8 → CI b k ph sg st wy ks := h3
  obtain ⟨c1, c2, c3, c4, c5, c6, c7⟩ := h3 k hk
  have ex : (ph k + v).toInt = (ph k).toInt + v.toInt := add_toInt (by omega) (by omega)
  have ek : (ks k + v).toInt = (ks k).toInt + v.toInt := add_toInt (by omega) (by omega)
  have r := fm_rng (x := ph k + v) (by omega) (by omega)
  obtain ⟨q, hq⟩ := fm_cong (x := ph k + v) (by omega) (by omega)
  refine ⟨h1, h2, fun j hj => ?_, h4, h5, h6, ⟨h7.1.1, by have h72 : tk.toInt ≤ (b : Int) := h7.1.2; show tk.toInt ≤ ((b + 1 : Nat) : Int); omega⟩, h7.2⟩
  show CI (b + 1) j (upd ph k (f_J9_floorMod_7cf53 (ph k + v) 1000)) sg st wy (upd ks k (ks k + v))
  by_cases e : j = k
  · subst e
    unfold CI
    rw [pk_us, pk_us]
    refine ⟨r, c2, by omega, by omega, by omega, c6 + q, by omega⟩
  · have := (h3 j hj).mono (b' := b + 1) (by omega)
    unfold CI at this ⊢
    rw [pk_un e, pk_un e]
    exact this
theorem NS_move {nt : Nat → Int32} (h : NS nt) {k : Nat} (hk : k < 8) (bm : Nat → Int32) (b : Int32) : NS (f_X4_hangOn bm nt k b).2 := by
  unfold f_X4_hangOn
  refine it_invI (P := fun _ a => NS a) 8 (fun i a hi ha => ?_) 8 0 nt (by omega) h
  unfold L_X4_hangOn_9
  exact NS_set ha hk hi _
theorem IZ_move {b : Nat} {z : StT} (h : IZ b z) {k : Nat} (hk : k < 8) {v : Int32} (hv : vp_in v 3) : IZ b (mvZ z k v) := by
  obtain ⟨bm, sp, ph, sg, st, wy, ks, nt, gv, se, tk, kk, sk, pl, ld⟩ := z
  obtain ⟨h1, h2, h3, h4, h5, h6, h7⟩ := h
  refine ⟨fun j hj => ?_, h2, h3, NS_move h4 hk bm v, h5, h6, h7⟩
  show vp_in (upd bm k v j) 3
  by_cases e : j = k
  · subst e
    rw [pk_us]
    exact hv
  · rw [pk_un e]
    exact h1 j hj
theorem IZ_wind {b : Nat} {z : StT} (h : IZ b z) {k : Nat} (hk : k < 8) : IZ b (wdZ z k) := by
  obtain ⟨bm, sp, ph, sg, st, wy, ks, nt, gv, se, tk, kk, sk, pl, ld⟩ := z
  obtain ⟨h1, h2, h3, h4, h5, h6, h7⟩ := h
  refine ⟨h1, h2, fun j hj => ?_, h4, h5, h6, h7⟩
  show CI b j ph (upd sg k 99) st wy ks
  have := h3 j hj
  by_cases e : j = k
  · subst e
    obtain ⟨c1, c2, c3, c4, c5, c6⟩ := this
    exact ⟨c1, by rw [pk_us]; decide, c3, c4, c5, c6⟩
  · unfold CI at this ⊢
    rw [pk_un e]
    exact this
theorem clamp_le {N : Int32} {m : Nat} (h1 : 0 ≤ N.toInt) (h : N.toInt ≤ (m : Int)) : N.toNatClampNeg ≤ m := by
  have e : (N.toNatClampNeg : Int) = N.toInt := by
    rw [← Int32.toNat_toInt]
    omega
  omega
theorem IZ_do {b : Nat} (hb : b ≤ 900000) {z : StT} (h : IZ b z) {s s' : S5} (hp : PR s s') (hd : s.1 = 5 ∨ s.1 = 6) : IZ (b + 99) (doZ z s.2.1 s.2.2.1 s.2.2.2.1 s.2.2.2.2).2 := by
  rcases hp with ⟨h0, h0'⟩ | ⟨L, K, K', N, N', B, B', e1, e2, hL⟩ | ⟨K, N, N', B, B', e1, e2, hK⟩ | ⟨K, N, N', B, B', e1, e2, hK⟩ | ⟨K, N, N', B, e1, e2, hK⟩ | ⟨K, K', N, N', B, B', e1, e2⟩ | ⟨K, N, B, e1, e2, hK, hN⟩ | ⟨K, K', N, B, B', e1, e2, hN⟩ | ⟨K, N, B, B', e1, e2, hK⟩ | ⟨K, N, N', B, B', e1, e2, hK⟩
  · omega
  · rw [e1] at hd; exact absurd hd (by decide : ¬ ((1 : Nat) = 5 ∨ (1 : Nat) = 6))
  · rw [e1] at hd; exact absurd hd (by decide : ¬ ((2 : Nat) = 5 ∨ (2 : Nat) = 6))
  · rw [e1] at hd; exact absurd hd (by decide : ¬ ((3 : Nat) = 5 ∨ (3 : Nat) = 6))
  · rw [e1] at hd; exact absurd hd (by decide : ¬ ((4 : Nat) = 5 ∨ (4 : Nat) = 6))
  · rw [e1] at hd; exact absurd hd (by decide : ¬ ((4 : Nat) = 5 ∨ (4 : Nat) = 6))
  · subst e1
    show IZ (b + 99) (doZ z 107 K B N).2
    unfold doZ
    rw [if_neg (by decide), if_pos rfl]
    refine (IZ_kick (by omega) h (vp_lt hK) ?_).mono (by omega)
    split
    · rw [neg_toInt (by omega)]
      omega
    · omega
  · subst e1
    show IZ (b + 99) (doZ z 116 K B N).2
    unfold doZ
    rw [if_neg (by decide), if_neg (by decide), if_neg (by decide)]
    have hn := clamp_le (m := 99) (by omega) hN.2
    exact (IZ_tks N.toNatClampNeg b (by omega) h).1.mono (by omega)
  · subst e1
    show IZ (b + 99) (doZ z 98 K B N).2
    unfold doZ
    rw [if_pos rfl]
    by_cases c : f_X5_isBeam N = true
    · rw [if_pos c]
      by_cases c2 : f_X4_hangsOn (zbm z) K.toNatClampNeg N = true
      · rw [if_pos c2]
        exact h.mono (by omega)
      · rw [if_neg c2]
        exact (IZ_move h (vp_lt hK) (vp_isBeam c)).mono (by omega)
    · rw [if_neg c]
      exact h.mono (by omega)
  · subst e1
    show IZ (b + 99) (doZ z 119 K B N).2
    unfold doZ
    rw [if_neg (by decide), if_neg (by decide), if_pos rfl]
    exact (IZ_wind h (vp_lt hK)).mono (by omega)
theorem PR.rf {s s' : S5} (h : PR s s') : PR s s := by
  rcases h with ⟨h0, h0'⟩ | ⟨L, K, K', N, N', B, B', e1, e2, hL⟩ | ⟨K, N, N', B, B', e1, e2, hK⟩ | ⟨K, N, N', B, B', e1, e2, hK⟩ | ⟨K, N, N', B, e1, e2, hK⟩ | ⟨K, K', N, N', B, B', e1, e2⟩ | ⟨K, N, B, e1, e2, hK, hN⟩ | ⟨K, K', N, B, B', e1, e2, hN⟩ | ⟨K, N, B, B', e1, e2, hK⟩ | ⟨K, N, N', B, B', e1, e2, hK⟩
  · exact Or.inl ⟨h0, h0⟩
  · exact Or.inr (Or.inl ⟨_, _, _, _, _, _, _, e1, e1, hL⟩)
  · exact Or.inr (Or.inr (Or.inl ⟨_, _, _, _, _, e1, e1, hK⟩))
  · exact Or.inr (Or.inr (Or.inr (Or.inl ⟨_, _, _, _, _, e1, e1, hK⟩)))
  · exact Or.inr (Or.inr (Or.inr (Or.inr (Or.inl ⟨_, _, _, _, e1, e1, hK⟩))))
  · exact Or.inr (Or.inr (Or.inr (Or.inr (Or.inr (Or.inl ⟨_, _, _, _, _, _, e1, e1⟩)))))
  · exact Or.inr (Or.inr (Or.inr (Or.inr (Or.inr (Or.inr (Or.inl ⟨_, _, _, e1, e1, hK, hN⟩))))))
  · exact Or.inr (Or.inr (Or.inr (Or.inr (Or.inr (Or.inr (Or.inr (Or.inl ⟨_, _, _, _, _, e1, e1, hN⟩)))))))
  · exact Or.inr (Or.inr (Or.inr (Or.inr (Or.inr (Or.inr (Or.inr (Or.inr (Or.inl ⟨_, _, _, _, e1, e1, hK⟩))))))))
  · exact Or.inr (Or.inr (Or.inr (Or.inr (Or.inr (Or.inr (Or.inr (Or.inr (Or.inr ⟨_, _, _, _, _, e1, e1, hK⟩))))))))
theorem IZ_obr {codes : Nat → Int32} {len : Nat} (hl : len ≤ 60) : ∀ (n i b : Nat) (s : S5) (dn : Int32) (z : StT), i + n = len → b + 99 * n ≤ 900000 → PR s s → GC codes len i s → IZ b z → IZ (b + 99 * n) (obr codes len n i s dn z).2 := by
  intro n
  induction n with
  | zero => intro i b s dn z _ _ _ _ h; exact h
  | succ n ih =>
    intro i b s dn z hi hb hp hg h
    obtain ⟨g1, g2, g3, g4⟩ := gc_step hl (show i < len by omega) hp hg
    have e1 : obr codes len (n + 1) i s dn z = if f_X3_endsOrderBehind codes len (nI i) = true then
      (if (doZ z (f5 s (codes i)).2.2.1 (f5 s (codes i)).2.2.2.1 (f5 s (codes i)).2.2.2.2.1 (f5 s (codes i)).2.2.2.2.2).1 = true then obr codes len n (i + 1) (f5 s (codes i)).2 (dn + 1) (doZ z (f5 s (codes i)).2.2.1 (f5 s (codes i)).2.2.2.1 (f5 s (codes i)).2.2.2.2.1 (f5 s (codes i)).2.2.2.2.2).2
        else (dn, (doZ z (f5 s (codes i)).2.2.1 (f5 s (codes i)).2.2.2.1 (f5 s (codes i)).2.2.2.2.1 (f5 s (codes i)).2.2.2.2.2).2))
      else obr codes len n (i + 1) (f5 s (codes i)).2 dn z := rfl
    rw [e1]
    by_cases c : f_X3_endsOrderBehind codes len (nI i) = true
    · rw [if_pos c]
      have hd := IZ_do (by omega) h g3 (g4 c)
      split
      · have := ih (i + 1) (b + 99) _ (dn + 1) _ (by omega) (by omega) g3 g2 hd
        rw [show b + 99 * (n + 1) = b + 99 + 99 * n by omega]
        exact this
      · exact hd.mono (by omega)
    · rw [if_neg c]
      exact (ih (i + 1) b _ dn z (by omega) (by omega) g3 g2 h).mono (by omega)
