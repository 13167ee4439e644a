/-! orders done, by both -/
abbrev Z11 : Type := (Nat → Int32) × (Nat → Int32) × (Nat → Int32) × (Nat → Int32) × (Nat → Int32) × (Nat → Int32) × (Nat → Int32) × Int32 × Int32 × Int32 × (Nat → Int32)
def mk44 (d n : Int32) (Z : Z11) (s : S5) : Int32 × Int32 × (Nat → Int32) × (Nat → Int32) × (Nat → Int32) × (Nat → Int32) × (Nat → Int32) × (Nat → Int32) × (Nat → Int32) × Int32 × Int32 × Int32 × (Nat → Int32) × Nat × Int32 × Int32 × Bool × Int32 :=
  (d, n, Z.1, Z.2.1, Z.2.2.1, Z.2.2.2.1, Z.2.2.2.2.1, Z.2.2.2.2.2.1, Z.2.2.2.2.2.2.1, Z.2.2.2.2.2.2.2.1, Z.2.2.2.2.2.2.2.2.1, Z.2.2.2.2.2.2.2.2.2.1, Z.2.2.2.2.2.2.2.2.2.2, s.1, s.2.1, s.2.2.1, s.2.2.2.1, s.2.2.2.2)
def doO (sp gv se : Nat → Int32) (Z : Z11) (L K : Int32) (B : Bool) (N : Int32) : Bool × Z11 :=
  f_X5_doesOrder Z.1 sp Z.2.1 Z.2.2.1 Z.2.2.2.1 Z.2.2.2.2.1 Z.2.2.2.2.2.1 Z.2.2.2.2.2.2.1 gv se Z.2.2.2.2.2.2.2.1 Z.2.2.2.2.2.2.2.2.1 Z.2.2.2.2.2.2.2.2.2.1 Z.2.2.2.2.2.2.2.2.2.2 L K B N
/-- a state but its rows to work in, and its numbers -/
def RelZ (sp gv se pl ld : Nat → Int32) (Z : Z11) (row : Nat → Int32) : Prop :=
  Rel (Z.1, sp, Z.2.1, Z.2.2.1, Z.2.2.2.1, Z.2.2.2.2.1, Z.2.2.2.2.2.1, Z.2.2.2.2.2.2.1, gv, se, Z.2.2.2.2.2.2.2.1, Z.2.2.2.2.2.2.2.2.1, Z.2.2.2.2.2.2.2.2.2.1, pl, ld) row ∧ Rng Z.1 sp Z.2.1 se
section O44
variable {codes : Nat → Int32} {len i : Nat} {sp gv se : Nat → Int32} {n : Int32} {Z : Z11} {s : S5}
theorem o44_no (h : f_X3_endsOrderBehind codes len (nI i) = false) : L_X5_obey_44 sp gv se codes len i (mk44 1 n Z s) = .inl (mk44 1 n Z (f5 s (f_X3_codeAt codes len (nI i))).2) := by
  unfold L_X5_obey_44
  rw [h]
  rfl
theorem o44_do (h : f_X3_endsOrderBehind codes len (nI i) = true) {L K N : Int32} {B : Bool} {D : Nat} (e : (f5 s (f_X3_codeAt codes len (nI i))).2 = (D, L, K, B, N)) : L_X5_obey_44 sp gv se codes len i (mk44 1 n Z s) = .inl (mk44 (bI (doO sp gv se Z L K B N).1) (n + bI (if (doO sp gv se Z L K B N).1 = true then true else false)) (doO sp gv se Z L K B N).2 (D, L, K, B, N)) := by
  rw [← e]
  have eL : (f5 s (f_X3_codeAt codes len (nI i))).2.2.1 = L := by rw [e]
  have eK : (f5 s (f_X3_codeAt codes len (nI i))).2.2.2.1 = K := by rw [e]
  have eB : (f5 s (f_X3_codeAt codes len (nI i))).2.2.2.2.1 = B := by rw [e]
  have eN : (f5 s (f_X3_codeAt codes len (nI i))).2.2.2.2.2 = N := by rw [e]
  rw [← eL, ← eK, ← eB, ← eN]
  unfold L_X5_obey_44
  rw [h]
  rfl
theorem o44_0 (q : Int32) : L_X5_obey_44 sp gv se codes len i (mk44 0 q Z s) = .inr (mk44 0 q Z s) := rfl
end O44
section ENDS
variable {t codes : Nat → Int32} {len : Nat}
theorem ends_no (hs : Same codes t len) (hl : len ≤ 60) {i : Nat} (h : i + 1 < len) (h2 : ¬ t (i + 1) = 59) : f_X3_endsOrderBehind codes len (nI i) = false := by
  unfold f_X3_endsOrderBehind
  rw [nI_1, if_neg (nI_ge h (by omega)), codeAt_eq hs hl h, if_neg h2]
theorem ends_last (hl : len ≤ 60) {i : Nat} (h : len ≤ i + 1) (hi : i < 60) : f_X3_endsOrderBehind codes len (nI i) = true := by
  unfold f_X3_endsOrderBehind
  rw [nI_1, if_pos (nI_le h (by omega))]
theorem ends_semi (hs : Same codes t len) (hl : len ≤ 60) {i : Nat} (h : i + 1 < len) (h2 : t (i + 1) = 59) : f_X3_endsOrderBehind codes len (nI i) = true := by
  unfold f_X3_endsOrderBehind
  rw [nI_1, if_neg (nI_ge h (by omega)), codeAt_eq hs hl h, if_pos h2]
theorem Tk.split : ∀ {n a : Nat} {s s' : S5}, Tk t a (n + 1) s s' → ∃ sM, Tk t a n s sM ∧ f5 sM (t (a + n)) = (true, s')
  | 0, a, s, s', h => by
    have h2 : (f5 s (t a)).2 = s' := h.2
    refine ⟨s, rfl, ?_⟩
    rw [Nat.add_zero, ← h2, ← h.1]
  | n + 1, a, s, s', h => by
    obtain ⟨sM, h1, h2⟩ := Tk.split h.2
    refine ⟨sM, ⟨h.1, h1⟩, ?_⟩
    rw [show a + (n + 1) = a + 1 + n by omega]
    exact h2
theorem run44 (hs : Same codes t len) (hl : len ≤ 60) {sp gv se : Nat → Int32} {dn : Int32} {Z : Z11} {s' : S5} (m : Nat) : ∀ (n a : Nat) (s : S5), Tk t a n s s' → a + n < len → (∀ i, i < n → ¬ t (a + i + 1) = 59) → itx (L_X5_obey_44 sp gv se codes len) a (n + m) (mk44 1 dn Z s) = itx (L_X5_obey_44 sp gv se codes len) (a + n) m (mk44 1 dn Z s')
  | 0, a, s, h, _, _ => by
    have h : s = s' := h
    rw [h, Nat.zero_add, Nat.add_zero]
  | n + 1, a, s, h, hle, h59 => by
    have en := ends_no hs hl (i := a) (by omega) (by have := h59 0 (by omega); rw [Nat.add_zero] at this; exact this)
    have e1 := o44_no (sp := sp) (gv := gv) (se := se) (n := dn) (Z := Z) (s := s) en
    rw [codeAt_eq hs hl (by omega)] at e1
    rw [show n + 1 + m = n + m + 1 by omega, itx_l _ _ _ _ _ e1, run44 hs hl m n (a + 1) _ h.2 (by omega) (fun i hi => by have := h59 (i + 1) (by omega); rw [show a + (i + 1) + 1 = a + 1 + i + 1 by omega] at this; exact this), show a + 1 + n = a + (n + 1) by omega]
end ENDS
section DO
variable {bm sp ph sg st wy ks nt gv se : Nat → Int32} {tk kk sk : Int32} {pl ld : Nat → Int32} {row : Nat → Int32}
theorem Rel.wk {pl' ld' : Nat → Int32} (h : Rel (bm, sp, ph, sg, st, wy, ks, nt, gv, se, tk, kk, sk, pl, ld) row) : Rel (bm, sp, ph, sg, st, wy, ks, nt, gv, se, tk, kk, sk, pl', ld') row := h
theorem Rng.kick (hR : Rng bm sp ph se) {k : Nat} {v : Int32} (hv : 0 ≤ v.toInt ∧ v.toInt < 1000) : Rng bm sp (upd ph k v) se := by
  refine ⟨hR.1, hR.2.1, fun j hj => ?_, hR.2.2.2⟩
  by_cases e : j = k
  · subst e
    rw [pk_us]
    exact hv
  · rw [pk_un e]
    exact hR.2.2.1 j hj
theorem Rng.move (hR : Rng bm sp ph se) {k : Nat} {v : Int32} (hv : vp_in v 3) : Rng (upd bm k v) sp ph se := by
  refine ⟨fun j hj => ?_, hR.2.1, hR.2.2.1, hR.2.2.2⟩
  by_cases e : j = k
  · subst e
    rw [pk_us]
    exact hv
  · rw [pk_un e]
    exact hR.1 j hj
theorem fm_rng (hR : Rng bm sp ph se) {k : Nat} (hk : k < 8) {v : Int32} (hv : -500 ≤ v.toInt ∧ v.toInt ≤ 500) : 0 ≤ (f_J9_floorMod_7cf53 (ph k + v) 1000).toInt ∧ (f_J9_floorMod_7cf53 (ph k + v) 1000).toInt < 1000 := by
  have hp := hR.2.2.1 k hk
  have ea : (ph k + v).toInt = (ph k).toInt + v.toInt := add_toInt (by omega) (by omega)
  have f := fm_eq (x := ph k + v) (by omega) (by omega)
  rw [f.1]
  exact f.2
theorem clamp8 {K : Int32} (h : vp_in K 8) : K.toNatClampNeg < 8 := by
  obtain ⟨j, hj, e⟩ := vp_in_of h (by decide)
  rw [e, nI_clamp (by omega)]
  exact hj
/-- an order done by both -/
theorem do_eq {Z : Z11} (h : RelZ sp gv se pl ld Z row) {c K N : Int32} {B : Bool} (hL : isL c = true) (hK : ¬ c = 116 → vp_in K 8) (hN : c = 98 → vp_in N 3) (hN2 : c = 107 → 1 ≤ N.toInt ∧ N.toInt ≤ 500) (p6 : Nat → Int32) (q : Nat) : ∃ ret now' p6', OX true c K B N row p6 q = (ret, q, true, now', p6') ∧ (doO sp gv se Z c K B N).1 = ret ∧ RelZ sp gv se pl ld (doO sp gv se Z c K B N).2 now' := by
  obtain ⟨bm, ph, sg, st, wy, ks, nt, tk, kk, sk, pq⟩ := Z
  obtain ⟨h, hR⟩ := h
  have h : Rel (bm, sp, ph, sg, st, wy, ks, nt, gv, se, tk, kk, sk, pl, ld) row := h
  have hR : Rng bm sp ph se := hR
  unfold OX doO f_X5_doesOrder
  rw [if_pos rfl]
  by_cases c1 : c = 98
  · subst c1
    have hb := hN rfl
    have hk := clamp8 (hK (by decide))
    rw [if_pos rfl, if_pos rfl, if_pos (isBeam5 hb), r_beam h hk]
    unfold f_X4_hangsOn
    by_cases ce : bm K.toNatClampNeg = N
    · rw [if_pos ce, if_pos ce, if_pos rfl]
      exact ⟨_, _, _, rfl, rfl, h, hR⟩
    · rw [if_neg ce, if_neg ce, if_neg Bool.false_ne_true]
      refine ⟨_, _, _, rfl, rfl, Rel_move h hk N, hR.move hb⟩
  · rw [if_neg c1, if_neg c1]
    by_cases c2 : c = 107
    · subst c2
      have hk := clamp8 (hK (by decide))
      have hn := hN2 rfl
      rw [if_pos rfl, if_pos rfl]
      have hv : -500 ≤ (if B = true then -N else N).toInt ∧ (if B = true then -N else N).toInt ≤ 500 := by
        split
        · rw [neg_toInt (by omega)]
          omega
        · omega
      generalize (if B = true then -N else N) = v at hv ⊢
      exact ⟨_, _, _, rfl, rfl, Rel_kick h hk (hR.2.2.1 _ hk) hv, hR.kick (fm_rng hR hk hv)⟩
    · rw [if_neg c2, if_neg c2]
      by_cases c3 : c = 119
      · subst c3
        have hk := clamp8 (hK (by decide))
        rw [if_pos rfl, if_pos rfl]
        exact ⟨_, _, _, rfl, rfl, h.clk3 hk 99, hR⟩
      · rw [if_neg c3, if_neg c3]
        have ht := r_ticks h hR pq p6 N
        dsimp only
        generalize f_X4_letPass bm sp ph sg st wy nt gv se tk sk pq N = A at ht ⊢
        generalize f_X6_goTicks p6 row N = C at ht ⊢
        obtain ⟨e, hr, hrg⟩ := ht
        exact ⟨_, _, _, rfl, rfl, hr, hrg⟩
end DO
section OBEY
variable {t codes : Nat → Int32} {len : Nat} {sp gv se pl ld : Nat → Int32}
theorem more44 {a m : Nat} {S S' : Int32 × Int32 × (Nat → Int32) × (Nat → Int32) × (Nat → Int32) × (Nat → Int32) × (Nat → Int32) × (Nat → Int32) × (Nat → Int32) × Int32 × Int32 × Int32 × (Nat → Int32) × Nat × Int32 × Int32 × Bool × Int32} (e : L_X5_obey_44 sp gv se codes len a S = .inl S') : itx (L_X5_obey_44 sp gv se codes len) a (m + 1) S = itx (L_X5_obey_44 sp gv se codes len) (a + 1) m S' := itx_l _ _ _ _ _ e
theorem stop44 (m a : Nat) (q : Int32) (Z : Z11) (s : S5) : unx (itx (L_X5_obey_44 sp gv se codes len) a m (mk44 0 q Z s)) = mk44 0 q Z s := by
  cases m with
  | zero => rw [itx_0]; rfl
  | succ m => rw [itx_r _ _ _ _ _ (o44_0 q)]; rfl
set_option maxHeartbeats 4000000 in
theorem obey_run (hs : Same codes t len) (hc : Chs t len) (hl : len ≤ 60) : ∀ (n k a : Nat) (dn : Int32) (now p6 : Nat → Int32) (Z : Z11) (L K N : Int32) (B : Bool), a ≤ len → len - a < n → RelZ sp gv se pl ld Z now → (∃ s', run6 codes len a (0, L, K, B, N) = .inl s' ∧ (s'.1 = 5 ∨ s'.1 = 6)) →
    ∃ d dn' Z' s', unx (itx (L_X5_obey_44 sp gv se codes len) a (len - a) (mk44 1 dn Z (0, L, K, B, N))) = mk44 d dn' Z' s' ∧ (unx (itx (L_X6_read_24 len t true) k n (true, true, a, true, dn, now, p6))).2.2.2.2.1 = dn' ∧ RelZ sp gv se pl ld Z' (unx (itx (L_X6_read_24 len t true) k n (true, true, a, true, dn, now, p6))).2.2.2.2.2.1 := by
  intro n
  induction n with
  | zero => intro k a dn now p6 Z L K N B h1 h2; omega
  | succ n ih =>
    intro k a dn now p6 Z L K N B h1 h2 hZ hcomp
    have hbad : ∀ at_, ¬ RRes codes len a (0, L, K, B, N) false at_ := fun at_ hr => by
      obtain ⟨s', e, hd⟩ := hcomp
      rcases hr with ⟨q, _⟩ | ⟨_, ⟨_, s2, e2, hd2⟩ | ⟨_, st, e2⟩⟩
      · cases q
      · rw [e] at e2
        cases e2
        rcases hd with hd | hd
        · exact hd2.1 hd
        · exact hd2.2 hd
      · rw [e] at e2
        cases e2
    by_cases cl : isL (f_X6_here len a t) = true
    · have ha := isL_lt cl
      have eh := here_lt (t := t) ha
      have cl2 : isL (t a) = true := by rw [← eh]; exact cl
      have e0 := f5_0 (L := L) (K := K) (B := B) (N := N) cl2
      rcases ord_eq hc hl cl2 (a + 1) (by omega) true now p6 K N B with ⟨m, s', hT, hle, hd, hf, hO⟩ | ⟨m, K', B', N', D, hT, hD, hm, hle, h59, hst, hO, hK, hN, hN2⟩
      · exact absurd (bad_res hs hl ((Tk.one e0).add hT) (by omega) hd (by rw [← Nat.add_assoc]; exact hf)) (hbad _)
      · have hT2 : Tk t a (1 + m) (0, L, K, B, N) (D, t a, K', B', N') := (Tk.one e0).add hT
        have er := run6_tk hs hl hT2 (by omega)
        have hT3 : Tk t a (m + 1) (0, L, K, B, N) (D, t a, K', B', N') := by rw [Nat.add_comm m 1]; exact hT2
        obtain ⟨sM, hM, eM⟩ := hT3.split
        obtain ⟨ret, now', p6', hX, hret, hZ'⟩ := do_eq (B := B') hZ cl2 hK hN hN2 p6 (a + 1 + m)
        have hO2 : f_X6_order len (a + 1) true true now p6 t (f_X6_here len a t) = (ret, a + 1 + m, true, now', p6') := by rw [eh, hO, hX]
        have el := l24_ord true k a dn now p6 cl hO2
        rw [if_pos rfl, if_pos rfl] at el
        -- what stands behind the order
        have hbehind : a + 1 + m = len ∨ (a + 1 + m < len ∧ t (a + 1 + m) = 59) := by
          by_cases ce : a + 1 + m = len
          · exact Or.inl ce
          · right
            refine ⟨by omega, ?_⟩
            by_cases c5 : t (a + 1 + m) = 59
            · exact c5
            · exfalso
              obtain ⟨s', e, hd⟩ := hcomp
              obtain ⟨st, h⟩ := run6_no hs hl (show a + 1 + m < len by omega) (hst (by omega) c5)
              rw [er, ← Nat.add_assoc, h] at e
              cases e
        have hends : f_X3_endsOrderBehind codes len (nI (a + m)) = true := by
          rcases hbehind with e | ⟨e1, e2⟩
          · exact ends_last hl (by omega) (by omega)
          · exact ends_semi hs hl (by omega) (by rw [show a + m + 1 = a + 1 + m by omega]; exact e2)
        have e44 : itx (L_X5_obey_44 sp gv se codes len) a (len - a) (mk44 1 dn Z (0, L, K, B, N)) = itx (L_X5_obey_44 sp gv se codes len) (a + m + 1) (len - (a + 1 + m)) (mk44 (bI ret) (dn + bI ret) (doO sp gv se Z (t a) K' B' N').2 (D, t a, K', B', N')) := by
          have r1 := run44 hs hl (sp := sp) (gv := gv) (se := se) (dn := dn) (Z := Z) (len - (a + 1 + m) + 1) m a _ hM (by omega) (fun i hi => by
            have := h59 i hi
            rw [show a + 1 + i = a + i + 1 by omega] at this
            exact this)
          rw [show m + (len - (a + 1 + m) + 1) = len - a by omega] at r1
          have r2 := o44_do (sp := sp) (gv := gv) (se := se) (n := dn) (Z := Z) (s := sM) (codes := codes) (len := len) hends (show (f5 sM (f_X3_codeAt codes len (nI (a + m)))).2 = (D, t a, K', B', N') by rw [codeAt_eq hs hl (by omega), eM])
          rw [hret] at r2
          have r3 : bI (if ret = true then true else false) = bI ret := by cases ret <;> rfl
          rw [r3] at r2
          rw [r1, itx_l _ _ _ _ _ r2]
        rw [e44]
        cases ret
        · -- not to be done
          rw [if_neg Bool.false_ne_true, if_neg Bool.false_ne_true] at el
          rw [itx_l _ _ _ _ _ el, done24 _ _ _ _ (by
            show ((if (if len ≤ a + 1 + m then false else true) = true then true else true) && ((if len ≤ a + 1 + m then false else true) && false)) = false
            rw [Bool.and_false, Bool.and_false])]
          refine ⟨0, dn + bI false, _, _, stop44 _ _ _ _ _, rfl, hZ'⟩
        · rw [if_pos rfl, if_pos rfl] at el
          rcases hbehind with ce | ⟨ce, c5⟩
          · have c1 : len ≤ a + 1 + m := by omega
            rw [if_pos c1, if_neg Bool.false_ne_true, if_neg Bool.false_ne_true] at el
            rw [itx_l _ _ _ _ _ el, done24 _ _ _ _ rfl, show len - (a + 1 + m) = 0 by omega, itx_0]
            exact ⟨1, dn + bI true, _, _, rfl, rfl, hZ'⟩
          · have c1 : ¬ len ≤ a + 1 + m := by omega
            rw [if_neg c1, if_pos rfl, if_pos rfl, take_t, here_lt ce, if_pos c5] at el
            have e6 := f5_end hD (t a) K' N' B' c5
            have er6 := run6_tk hs hl (Tk.one (a := a + 1 + m) e6) (by omega)
            have hcomp' : ∃ s', run6 codes len (a + 1 + m + 1) (0, t a, K', B', N') = .inl s' ∧ (s'.1 = 5 ∨ s'.1 = 6) := by
              obtain ⟨s', e, hd⟩ := hcomp
              rw [er, ← Nat.add_assoc, er6] at e
              exact ⟨s', e, hd⟩
            have hnext : a + 1 + m + 1 < len ∧ ¬ t (a + 1 + m + 1) = 59 := by
              obtain ⟨s', e, hd⟩ := hcomp'
              by_cases cz : a + 1 + m + 1 = len
              · rw [cz, run6_end] at e
                cases e
                rcases hd with hd | hd
                · exact absurd hd (show ¬ (0 : Nat) = 5 by decide)
                · exact absurd hd (show ¬ (0 : Nat) = 6 by decide)
              · refine ⟨by omega, fun q => ?_⟩
                obtain ⟨st, h⟩ := run6_no hs hl (a := a + 1 + m + 1) (s := (0, t a, K', B', N')) (by omega) (f5_0n (by rw [q]; decide))
                rw [h] at e
                cases e
            have en := ends_no hs hl hnext.1 hnext.2
            have r4 := o44_no (sp := sp) (gv := gv) (se := se) (n := dn + bI true) (Z := (doO sp gv se Z (t a) K' B' N').2) (s := (D, t a, K', B', N')) en
            rw [codeAt_eq hs hl ce, e6] at r4
            rw [show len - (a + 1 + m) = len - (a + 1 + m + 1) + 1 by omega, show a + m + 1 = a + 1 + m by omega]
            have r5 := more44 (m := len - (a + 1 + m + 1)) r4
            have g := ih (k + 1) (a + 1 + m + 1) (dn + bI true) now' p6' (doO sp gv se Z (t a) K' B' N').2 (t a) K' N' B' (by omega) (by omega) hZ' hcomp'
            rw [itx_l _ _ _ _ _ el]
            show ∃ d dn' Z' s', unx (itx (L_X5_obey_44 sp gv se codes len) (a + 1 + m) (len - (a + 1 + m + 1) + 1) (mk44 1 (dn + bI true) (doO sp gv se Z (t a) K' B' N').2 (D, t a, K', B', N'))) = mk44 d dn' Z' s' ∧ _
            rw [r5]
            exact g
    · have cf : isL (f_X6_here len a t) = false := by
        cases q : isL (f_X6_here len a t)
        · rfl
        · exact absurd q cl
      exact absurd (bad_res (n := 0) hs hl (show Tk t a 0 (0, L, K, B, N) (0, L, K, B, N) from rfl) (by omega) (show ¬ (0 : Nat) = 5 ∧ ¬ (0 : Nat) = 6 by decide) (fun ha => by
        rw [here_lt (by omega)] at cf
        exact f5_0n cf)) (hbad _)
end OBEY
/-! the clock that the reader holds -/
theorem f5_clk {s : S5} (h : vp_in s.2.2.1 8) (ch : Int32) : vp_in (f5 s ch).2.2.2.1 8 := by
  unfold f5 f_X3_takes
  by_cases c1 : mapI s.1 = 1
  · rw [if_pos c1]; exact h
  rw [if_neg c1]
  by_cases c2 : mapI s.1 = 2
  · rw [if_pos c2]
    show vp_in (f_X3_takesClock s.1 s.2.1 s.2.2.1 ch).2.2 8
    unfold f_X3_takesClock
    by_cases cc : f_X5_isClock (ch - (48 : Int32)) = true
    · rw [if_pos cc]; exact vp_isClock cc
    · rw [if_neg cc]; exact h
  rw [if_neg c2]
  by_cases c3 : mapI s.1 = 3
  · rw [if_pos c3]; exact h
  rw [if_neg c3]
  by_cases c4 : mapI s.1 = 4
  · rw [if_pos c4]; exact h
  rw [if_neg c4]
  by_cases c5 : mapI s.1 = 5
  · rw [if_pos c5]; exact h
  rw [if_neg c5]
  by_cases c6 : mapI s.1 = 6
  · rw [if_pos c6]; exact h
  rw [if_neg c6]; exact h
theorem itx_inv {α ρ : Type} {f : Nat → α → α ⊕ ρ} {P : α → Prop} {Q : ρ → Prop} (h1 : ∀ i s s', P s → f i s = .inl s' → P s') (h2 : ∀ i s r, P s → f i s = .inr r → Q r) : ∀ (n i : Nat) (s : α), P s → (∃ s', itx f i n s = .inl s' ∧ P s') ∨ (∃ r, itx f i n s = .inr r ∧ Q r)
  | 0, i, s, h => Or.inl ⟨s, itx_0 f i s, h⟩
  | n + 1, i, s, h => by
    cases e : f i s with
    | inl s' =>
      rw [itx_l _ _ _ _ _ e]
      exact itx_inv h1 h2 n (i + 1) s' (h1 i s s' h e)
    | inr r => exact Or.inr ⟨r, itx_r _ _ _ _ _ e, h2 i s r h e⟩
section CLK
variable {codes : Nat → Int32} {len : Nat} {sp gv se : Nat → Int32}
theorem l6_clk {i : Nat} {s : S5} (h : vp_in s.2.2.1 8) : (∀ s', L_X3_indexOfError_6 codes len i s = .inl s' → vp_in s'.2.2.1 8) ∧ (∀ r, L_X3_indexOfError_6 codes len i s = .inr r → vp_in r.2.2.2.1 8) := by
  have hk := f5_clk h (f_X3_codeAt codes len (nI i))
  unfold f5 at hk
  unfold L_X3_indexOfError_6
  by_cases c : (f_X3_takes s.1 s.2.1 s.2.2.1 s.2.2.2.1 s.2.2.2.2 (f_X3_codeAt codes len (nI i))).1 = true
  · rw [if_pos c]
    exact ⟨fun s' e => (by cases e; exact hk), fun r e => by cases e⟩
  · rw [if_neg c]
    exact ⟨fun s' e => (by cases e), fun r e => by cases e; exact hk⟩
theorem err_clk {L K N : Int32} {B : Bool} (h : vp_in K 8) : vp_in (f_X3_indexOfError codes len L K B N).2.2.2.1 8 := by
  have ei : f_X3_indexOfError codes len L K B N = Sum.elim (fun (n6 : Nat × Int32 × Int32 × Bool × Int32) => ((nI len), n6.1, n6.2.1, n6.2.2.1, n6.2.2.2.1, n6.2.2.2.2)) (fun r => r) (itx (L_X3_indexOfError_6 codes len) 0 len (f_X3_startReading, L, K, B, N)) := rfl
  rcases itx_inv (f := L_X3_indexOfError_6 codes len) (P := fun s : S5 => vp_in s.2.2.1 8) (Q := fun r => vp_in r.2.2.2.1 8) (fun i s s' h e => (l6_clk h).1 s' e) (fun i s r h e => (l6_clk h).2 r e) len 0 (f_X3_startReading, L, K, B, N) h with ⟨s', e, hp⟩ | ⟨r, e, hq⟩
  · rw [ei, e]
    exact hp
  · rw [ei, e]
    exact hq
theorem comp_clk {L K N : Int32} {B : Bool} (h : vp_in K 8) : vp_in (f_X3_isComplete codes len L K B N).2.2.2.1 8 := err_clk h
def ck44 (S : Int32 × Int32 × (Nat → Int32) × (Nat → Int32) × (Nat → Int32) × (Nat → Int32) × (Nat → Int32) × (Nat → Int32) × (Nat → Int32) × Int32 × Int32 × Int32 × (Nat → Int32) × Nat × Int32 × Int32 × Bool × Int32) : Int32 := S.2.2.2.2.2.2.2.2.2.2.2.2.2.2.2.1
theorem l44_clk {i : Nat} {S : Int32 × Int32 × (Nat → Int32) × (Nat → Int32) × (Nat → Int32) × (Nat → Int32) × (Nat → Int32) × (Nat → Int32) × (Nat → Int32) × Int32 × Int32 × Int32 × (Nat → Int32) × Nat × Int32 × Int32 × Bool × Int32} (h : vp_in (ck44 S) 8) : (∀ s', L_X5_obey_44 sp gv se codes len i S = .inl s' → vp_in (ck44 s') 8) ∧ (∀ r, L_X5_obey_44 sp gv se codes len i S = .inr r → vp_in (ck44 r) 8) := by
  have hk := f5_clk (s := (S.2.2.2.2.2.2.2.2.2.2.2.2.2.1, S.2.2.2.2.2.2.2.2.2.2.2.2.2.2.1, S.2.2.2.2.2.2.2.2.2.2.2.2.2.2.2.1, S.2.2.2.2.2.2.2.2.2.2.2.2.2.2.2.2.1, S.2.2.2.2.2.2.2.2.2.2.2.2.2.2.2.2.2)) h (f_X3_codeAt codes len (nI i))
  unfold f5 at hk
  unfold L_X5_obey_44
  by_cases c : S.1 = 0
  · rw [if_pos c]
    exact ⟨fun s' e => (by cases e), fun r e => by cases e; exact h⟩
  · rw [if_neg c]
    exact ⟨fun s' e => (by cases e; exact hk), fun r e => by cases e⟩
theorem obey_clk (n i : Nat) {S : Int32 × Int32 × (Nat → Int32) × (Nat → Int32) × (Nat → Int32) × (Nat → Int32) × (Nat → Int32) × (Nat → Int32) × (Nat → Int32) × Int32 × Int32 × Int32 × (Nat → Int32) × Nat × Int32 × Int32 × Bool × Int32} (h : vp_in (ck44 S) 8) : vp_in (ck44 (unx (itx (L_X5_obey_44 sp gv se codes len) i n S))) 8 := by
  rcases itx_inv (f := L_X5_obey_44 sp gv se codes len) (P := fun S => vp_in (ck44 S) 8) (Q := fun S => vp_in (ck44 S) 8) (fun i s s' h e => (l44_clk h).1 s' e) (fun i s r h e => (l44_clk h).2 r e) n i S h with ⟨s', e, hp⟩ | ⟨r, e, hq⟩
  · rw [e]
    exact hp
  · rw [e]
    exact hq
end CLK
section OBEYED
variable {t codes : Nat → Int32} {len : Nat}
variable {bm sp ph sg st wy ks nt gv se : Nat → Int32} {tk kk sk : Int32} {pl ld : Nat → Int32} {row : Nat → Int32}
/-- the class's obey, out of its loop -/
def obI (I : Int32 × Int32 × (Nat → Int32) × (Nat → Int32) × (Nat → Int32) × (Nat → Int32) × (Nat → Int32) × (Nat → Int32) × (Nat → Int32) × Int32 × Int32 × Int32 × (Nat → Int32) × Nat × Int32 × Int32 × Bool × Int32) (size : Nat) (qa : Nat → Nat → Nat) (cc : Nat → StT) : Int32 × (Nat → Int32) × (Nat → Int32) × (Nat → Int32) × (Nat → Int32) × (Nat → Int32) × (Nat → Int32) × (Nat → Int32) × Int32 × Int32 × Int32 × (Nat → Int32) × Nat × (Nat → Nat → Nat) × (Nat → StT) × Nat × Nat × Int32 × Int32 × Bool × Int32 :=
  (I.2.1, I.2.2.1, I.2.2.2.1, I.2.2.2.2.1, I.2.2.2.2.2.1, I.2.2.2.2.2.2.1, I.2.2.2.2.2.2.2.1, I.2.2.2.2.2.2.2.2.1, I.2.2.2.2.2.2.2.2.2.1, I.2.2.2.2.2.2.2.2.2.2.1, I.2.2.2.2.2.2.2.2.2.2.2.1, I.2.2.2.2.2.2.2.2.2.2.2.2.1, size, qa, cc, f_X3_empty, I.2.2.2.2.2.2.2.2.2.2.2.2.2.1, I.2.2.2.2.2.2.2.2.2.2.2.2.2.2.1, I.2.2.2.2.2.2.2.2.2.2.2.2.2.2.2.1, I.2.2.2.2.2.2.2.2.2.2.2.2.2.2.2.2.1, I.2.2.2.2.2.2.2.2.2.2.2.2.2.2.2.2.2)
theorem obI_eq (bm sp ph sg st wy ks nt gv se : Nat → Int32) (tk kk sk : Int32) (pl ld : Nat → Int32) (size : Nat) (qa : Nat → Nat → Nat) (cc : Nat → StT) (codes : Nat → Int32) (len : Nat) (L K N : Int32) (B : Bool) : f_X5_obey bm sp ph sg st wy ks nt gv se tk kk sk pl ld size qa cc codes len L K B N = obI (unx (itx (L_X5_obey_44 sp gv se codes len) 0 len (mk44 1 0 (bm, ph, sg, st, wy, ks, nt, tk, kk, sk, pl) (0, (f_X3_isComplete codes len L K B N).2.2.1, (f_X3_isComplete codes len L K B N).2.2.2.1, (f_X3_isComplete codes len L K B N).2.2.2.2.1, (f_X3_isComplete codes len L K B N).2.2.2.2.2)))) (hsz size) (hqa size qa) (hcc size cc (bm, sp, ph, sg, st, wy, ks, nt, gv, se, tk, kk, sk, pl, ld)) := rfl
theorem r_obey (hs : Same codes t len) (hc : Chs t len) (hl : len ≤ 60) (h : Rel (bm, sp, ph, sg, st, wy, ks, nt, gv, se, tk, kk, sk, pl, ld) row) (hR : Rng bm sp ph se) (p6 book : Nat → Int32) (states size : Nat) (qa : Nat → Nat → Nat) (cc : Nat → StT) {L K N : Int32} {B : Bool} (hr : (f_X6_read len row p6 t false).1 = true) :
    (f_X6_obey states len row book p6 t).1 = (f_X5_obey bm sp ph sg st wy ks nt gv se tk kk sk pl ld size qa cc codes len L K B N).1 ∧
    RelZ sp gv se pl ld ((f_X5_obey bm sp ph sg st wy ks nt gv se tk kk sk pl ld size qa cc codes len L K B N).2.1, (f_X5_obey bm sp ph sg st wy ks nt gv se tk kk sk pl ld size qa cc codes len L K B N).2.2.1, (f_X5_obey bm sp ph sg st wy ks nt gv se tk kk sk pl ld size qa cc codes len L K B N).2.2.2.1, (f_X5_obey bm sp ph sg st wy ks nt gv se tk kk sk pl ld size qa cc codes len L K B N).2.2.2.2.1, (f_X5_obey bm sp ph sg st wy ks nt gv se tk kk sk pl ld size qa cc codes len L K B N).2.2.2.2.2.1, (f_X5_obey bm sp ph sg st wy ks nt gv se tk kk sk pl ld size qa cc codes len L K B N).2.2.2.2.2.2.1, (f_X5_obey bm sp ph sg st wy ks nt gv se tk kk sk pl ld size qa cc codes len L K B N).2.2.2.2.2.2.2.1, (f_X5_obey bm sp ph sg st wy ks nt gv se tk kk sk pl ld size qa cc codes len L K B N).2.2.2.2.2.2.2.2.1, (f_X5_obey bm sp ph sg st wy ks nt gv se tk kk sk pl ld size qa cc codes len L K B N).2.2.2.2.2.2.2.2.2.1, (f_X5_obey bm sp ph sg st wy ks nt gv se tk kk sk pl ld size qa cc codes len L K B N).2.2.2.2.2.2.2.2.2.2.1, (f_X5_obey bm sp ph sg st wy ks nt gv se tk kk sk pl ld size qa cc codes len L K B N).2.2.2.2.2.2.2.2.2.2.2.1) (f_X6_obey states len row book p6 t).2.2.2.2.2.2.2.2.1 ∧
    (vp_in K 8 → vp_in (f_X5_obey bm sp ph sg st wy ks nt gv se tk kk sk pl ld size qa cc codes len L K B N).2.2.2.2.2.2.2.2.2.2.2.2.2.2.2.2.2.2.1 8) ∧
    (f_X6_obey states len row book p6 t).2.2.1 = (f_X6_save states row book).1 ∧ (f_X6_obey states len row book p6 t).2.2.2.2.2.2.2.2.2.1 = (f_X6_save states row book).2 := by
  obtain ⟨er, ep, -⟩ := read_0 hs hc hl row p6 L K N B
  have hcomp := (r_complete hs hc hl row p6 L K N B).2 hr
  rw [obI_eq]
  have hck := fun (hK : vp_in K 8) => obey_clk (codes := codes) (len := len) (sp := sp) (gv := gv) (se := se) len 0 (S := mk44 1 0 (bm, ph, sg, st, wy, ks, nt, tk, kk, sk, pl) (0, (f_X3_isComplete codes len L K B N).2.2.1, (f_X3_isComplete codes len L K B N).2.2.2.1, (f_X3_isComplete codes len L K B N).2.2.2.2.1, (f_X3_isComplete codes len L K B N).2.2.2.2.2)) (comp_clk (codes := codes) (len := len) (L := L) (N := N) (B := B) hK)
  have hrun := obey_run (sp := sp) (gv := gv) (se := se) (pl := pl) (ld := ld) hs hc hl 62 0 0 0 row p6 (bm, ph, sg, st, wy, ks, nt, tk, kk, sk, pl) (f_X3_isComplete codes len L K B N).2.2.1 (f_X3_isComplete codes len L K B N).2.2.2.1 (f_X3_isComplete codes len L K B N).2.2.2.2.2 (f_X3_isComplete codes len L K B N).2.2.2.2.1 (by omega) (by omega) ⟨h, hR⟩ (hcomp _ _ _ _)
  rw [Nat.sub_zero] at hrun
  generalize unx (itx (L_X5_obey_44 sp gv se codes len) 0 len (mk44 1 0 (bm, ph, sg, st, wy, ks, nt, tk, kk, sk, pl) (0, (f_X3_isComplete codes len L K B N).2.2.1, (f_X3_isComplete codes len L K B N).2.2.2.1, (f_X3_isComplete codes len L K B N).2.2.2.2.1, (f_X3_isComplete codes len L K B N).2.2.2.2.2))) = I at hrun hck ⊢
  unfold f_X6_obey
  rw [er, ep]
  unfold f_X6_read
  generalize unx (itx (L_X6_read_24 len t true) 0 62 (true, true, 0, true, (0 : Int32), row, p6)) = J at hrun ⊢
  obtain ⟨d, dn', Z', s', e1, e2, e3⟩ := hrun
  subst e1
  exact ⟨e2, e3, hck, rfl, rfl⟩
end OBEYED
