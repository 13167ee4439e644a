/-! what each call answers, and what holds behind it -/
theorem updL0 (out : Nat → Int64) (v : Int64) : vp_updL out 0 v 0 = v := if_pos rfl
theorem rin (v lo hi : Int32) (a b : Int64) (ha : a.toInt = lo.toInt) (hb : b.toInt = hi.toInt) : f_X6_in v.toInt64 a b = true ↔ (¬ v < lo ∧ v ≤ hi) := by
  rw [in_iff, ha, hb]
  constructor
  · intro h
    exact ⟨fun q => by have := Int32.lt_iff_toInt_lt.mp q; omega, Int32.le_iff_toInt_le.mpr h.2⟩
  · intro h
    have h2 := Int32.le_iff_toInt_le.mp h.2
    have h1 : ¬ v.toInt < lo.toInt := fun q => h.1 (Int32.lt_iff_toInt_lt.mpr q)
    omega
theorem beq_of {a b : Bool} (h : a = true ↔ b = true) : a = b := Bool.eq_iff_iff.mpr h
theorem ticks_in (n : Int32) : f_X6_in n.toInt64 (1 : Int64) (200 : Int64) = f_X5_areTicksOfACall n := by
  refine beq_of ((rin n 1 200 1 200 rfl rfl).trans ?_)
  unfold f_X5_areTicksOfACall
  constructor
  · intro h
    rw [if_neg h.1, if_neg (fun q => by have := Int32.lt_iff_toInt_lt.mp q; have := Int32.le_iff_toInt_le.mp h.2; omega)]
  · intro h
    by_cases c1 : n < 1
    · rw [if_pos c1] at h; cases h
    · rw [if_neg c1] at h
      by_cases c2 : (200 : Int32) < n
      · rw [if_pos c2] at h; cases h
      · refine ⟨c1, Int32.le_iff_toInt_le.mpr ?_⟩
        have : ¬ (200 : Int32).toInt < n.toInt := fun q => c2 (Int32.lt_iff_toInt_lt.mpr q)
        omega
theorem isBeam_eq (a : Int32) : f_X6_isBeam a = f_X5_isBeam a := by
  have h := bm_in a
  unfold f_X6_isBeam
  exact h
theorem isSet_eq (a : Int32) : f_X6_in a.toInt64 (0 : Int64) (2 : Int64) = f_X5_isSetting a := bm_in a
theorem isPair_eq (a b : Int32) : f_X6_isPair a b = f_X5_isPair a b := by
  unfold f_X6_isPair f_X5_isPair
  rw [isClock_eq, isClock_eq]
theorem Rel.invB {z : StT} {row : Nat → Int32} (h : Rel z row) (hR : RngT z) : InvB row := fun k hk => by
  unfold f_X6_beamOf
  rw [(h.1 k hk).1]
  exact hR.1 k hk
theorem why_range {lo hi : Int32} {a b : Int64} (v : Int32) (ha : a.toInt = lo.toInt) (hb : b.toInt = hi.toInt) (w : Int32) (h : ¬ v < lo ∧ v ≤ hi) : (if f_X6_in v.toInt64 a b = true then (0 : Int32) else w) = 0 := if_pos ((rin v lo hi a b ha hb).mpr h)
theorem why_out {lo hi : Int32} {a b : Int64} (v : Int32) (ha : a.toInt = lo.toInt) (hb : b.toInt = hi.toInt) (w : Int32) (h : ¬ (¬ v < lo ∧ v ≤ hi)) : (if f_X6_in v.toInt64 a b = true then (0 : Int32) else w) = w := if_neg (fun q => h ((rin v lo hi a b ha hb).mp q))
theorem why_set (k : Nat) (hk : k < 3) (v : Int32) : f_X6_isSet (nI k) v = true ↔ (¬ v < f_X5_leastOfSetting (nI k) ∧ v ≤ f_X5_mostOfSetting (nI k)) := by
  have hc : k = 0 ∨ k = 1 ∨ k = 2 := by omega
  unfold f_X6_isSet
  rcases hc with e | e | e <;> subst e
  · rw [if_pos (show nI 0 = 0 from rfl)]
    exact rin v 0 50 0 50 rfl rfl
  · rw [if_neg (show ¬ nI 1 = 0 by decide), if_pos (show nI 1 = 1 from rfl)]
    exact rin v 0 200 0 200 rfl rfl
  · rw [if_neg (show ¬ nI 2 = 0 by decide), if_neg (show ¬ nI 2 = 1 by decide)]
    exact rin v 1 50 1 50 rfl rfl
section SEM
variable {bm sp ph sg st wy ks nt gv se pl ld : Nat → Int32} {tk kk sk : Int32} {tbm tsp tph tsg tst twy tks tnt tgv tse tpl tld : Nat → Int32} {ttk tkk tsk : Int32} {sbm ssp sph ssg sst swy sks snt sgv sse spl sld : Nat → Int32} {stk skk ssk : Int32} {sn : Bool} {size : Nat} {qa : Nat → Nat → Nat} {cc : Nat → StT} {codes : Nat → Int32} {len due : Nat} {let_ clk : Int32} {bak : Bool} {num refusal : Int32} {at_ : Nat} {good runs : Bool} {did : Int32} {now trial shot book rp gr tx : Nat → Int32} {out : Nat → Int64}
theorem doMove_val (h : Rel (bm, sp, ph, sg, st, wy, ks, nt, gv, se, tk, kk, sk, pl, ld) now) {k : Nat} (hk : k < 8) (b : Int32) : (f_X6_doMove now k b).1 = f_J6_bitCount_0f7a4 (f_X4_maskOfBeam (upd bm k b) b) - (1 : Int32) := by
  have h0 := h.clk0 hk b
  have e1 : (f_X6_doMove now k b).1 = it (fun i (r : Int32) => r + bI (!decide (i = k) && f_X4_hangsOn (upd bm k b) i b)) 0 8 (nI 0) := by
    unfold f_X6_doMove
    have g := it_rel (f := L_X6_doMove_17 k b) (g := fun i (r : Int32) => r + bI (!decide (i = k) && f_X4_hangsOn (upd bm k b) i b)) (P := fun (z : Int32 × (Nat → Int32)) (y : Int32) => z.1 = y ∧ ∀ i, i < 8 → z.2 (6 + 7 * i + 0) = upd bm k b i) 8 (fun i z y hi hp => ?_) 8 0 ((0 : Int32), upd now (6 + 7 * k + 0) b) (nI 0) (by omega) ⟨rfl, fun i hi => h0.e0 hi⟩
    · exact g.1
    · obtain ⟨z1, z2⟩ := z
      obtain ⟨e, hz⟩ := hp
      have e : z1 = y := e
      have hz : ∀ i, i < 8 → z2 (6 + 7 * i + 0) = upd bm k b i := hz
      subst e
      unfold L_X6_doMove_17 f_X6_beamOf f_X4_hangsOn
      dsimp only
      by_cases c : i = k
      · rw [if_pos c, if_pos c, decide_eq_true c]
        exact ⟨(Int32.add_zero z1).symm, hz⟩
      · have hg := near_ge k i
        rw [if_neg c, if_neg c, decide_eq_false c, pk_un (by omega), hz i hi]
        refine ⟨rfl, fun j hj => ?_⟩
        rw [pk_un (by omega)]
        exact hz j hj
  rw [e1, it_cnt, Nat.zero_add, bc_eq (fun j hj => by rw [bt_beam, decide_eq_false (by omega)]; rfl)]
  have e2 : cnt (Bt (f_X4_maskOfBeam (upd bm k b) b)) 0 8 = cnt (fun i => !decide (i = k) && f_X4_hangsOn (upd bm k b) i b) 0 8 + 1 := by
    refine (cnt_drop k ?_ ?_ 8 0 (by omega) (by omega) (fun x _ hx hne => ?_)).symm
    · rw [bt_beam, decide_eq_true hk]
      unfold f_X4_hangsOn
      rw [pk_us, if_pos rfl]
      rfl
    · rw [decide_eq_true (show k = k from rfl)]
      rfl
    · rw [bt_beam, decide_eq_true (by omega), decide_eq_false hne]
      rfl
  rw [e2, nI_pred]
theorem sem_pass (hI : Inv (bm, sp, ph, sg, st, wy, ks, nt, gv, se, tk, kk, sk, pl, ld) (sbm, ssp, sph, ssg, sst, swy, sks, snt, sgv, sse, stk, skk, ssk, spl, sld) sn size cc now shot book codes tx len clk) (n : Int32) (hn : f_X5_areTicksOfACall n = true) : ∀ u1 u2, u1 = (f_L_pass_N bm sp ph sg st wy ks nt gv se tk kk sk pl ld size qa cc out n) → u2 = (f_X6_pass size now book rp n) → u2.2.1 = u1.1 ∧ (u1.1 = 0 → u1.2.2.2.2.2.2.2.2.2.2.2.2 0 = (u2.1).toInt64) ∧ u2.2.2.1 = u1.2.2.2.2.2.2.2.2.2.1 ∧ Inv (bm, sp, u1.2.1, u1.2.2.1, u1.2.2.2.1, u1.2.2.2.2.1, ks, u1.2.2.2.2.2.1, gv, se, u1.2.2.2.2.2.2.1, kk, u1.2.2.2.2.2.2.2.1, u1.2.2.2.2.2.2.2.2.1, ld) (sbm, ssp, sph, ssg, sst, swy, sks, snt, sgv, sse, stk, skk, ssk, spl, sld) sn u1.2.2.2.2.2.2.2.2.2.1 u1.2.2.2.2.2.2.2.2.2.2.2.1 u2.2.2.2.1 shot u2.2.2.2.2.1 codes tx len clk := by
  intro u1 u2 h1 h2
  obtain ⟨hRel, hRng, hShot, hRngS, hHs, hrest⟩ := hI
  have hsv := hist_save hHs hRel hRng
  have ht := r_ticks hRel hRng pl rp n
  unfold f_L_pass_N f_X5_pass at h1
  unfold f_X6_pass at h2
  subst h1
  subst h2
  dsimp only
  generalize f_X4_letPass bm sp ph sg st wy nt gv se tk sk pl n = A at ht ⊢
  generalize f_X6_goTicks rp now n = C at ht ⊢
  obtain ⟨e, hr, hrg⟩ := ht
  refine ⟨?_, fun _ => ?_, save_new _ _ _, hr, hrg, hShot, hRngS, hsv, hrest⟩
  · rw [ticks_in, hn]
    rfl
  · rw [updL0, e]
theorem sem_kick (hI : Inv (bm, sp, ph, sg, st, wy, ks, nt, gv, se, tk, kk, sk, pl, ld) (sbm, ssp, sph, ssg, sst, swy, sks, snt, sgv, sse, stk, skk, ssk, spl, sld) sn size cc now shot book codes tx len clk) (k : Nat) (v : Int32) (hk : k < 8) (hc : f_X5_isClock (nI k) = true) (h0 : ¬ v = 0) (hlo : ¬ v < (-500 : Int32)) (hhi : v ≤ (500 : Int32)) : ∀ u1 u2, u1 = (f_L_kick_N bm sp ph sg st wy ks nt gv se tk kk sk pl ld size qa cc out k v) → u2 = (f_X6_kick size now book k v) → u2.2.1 = u1.1 ∧ (u1.1 = 0 → u1.2.2.2.2.2.2.2 0 = (u2.1).toInt64) ∧ u2.2.2.1 = u1.2.2.2.2.1 ∧ Inv (bm, sp, u1.2.1, sg, st, wy, u1.2.2.1, nt, gv, se, tk, u1.2.2.2.1, sk, pl, ld) (sbm, ssp, sph, ssg, sst, swy, sks, snt, sgv, sse, stk, skk, ssk, spl, sld) sn u1.2.2.2.2.1 u1.2.2.2.2.2.2.1 u2.2.2.2.1 shot u2.2.2.2.2 codes tx len clk := by
  intro u1 u2 h1 h2
  obtain ⟨hRel, hRng, hShot, hRngS, hHs, hrest⟩ := hI
  have hRng : Rng bm sp ph se := hRng
  have hsv := hist_save hHs hRel hRng
  have z5 : (500 : Int32).toInt = 500 := rfl
  have z6 : (-500 : Int32).toInt = -500 := rfl
  have hb : -500 ≤ v.toInt ∧ v.toInt ≤ 500 := by
    have a1 : ¬ v.toInt < (-500 : Int32).toInt := fun q => hlo (Int32.lt_iff_toInt_lt.mpr q)
    have a2 := Int32.le_iff_toInt_le.mp hhi
    omega
  have hr := Rel_kick hRel hk (hRng.2.2.1 k hk) hb
  have hrg : Rng bm sp (f_X4_kickBy ph ks kk k v).1 se := hRng.kick (fm_rng hRng hk hb)
  have hval : (f_X6_doKick now k v).1 = (f_X4_kickBy ph ks kk k v).1 k := hr.e2 hk
  unfold f_L_kick_N f_X5_kick at h1
  unfold f_X6_kick at h2
  subst h1
  subst h2
  dsimp only
  generalize f_X4_kickBy ph ks kk k v = A at hr hrg hval ⊢
  generalize f_X6_doKick now k v = C at hr hval ⊢
  refine ⟨?_, fun _ => ?_, save_new _ _ _, hr, hrg, hShot, hRngS, hsv, hrest⟩
  · show (if f_X6_isClock (nI k) = true then _ else (1 : Int32)) = 0
    rw [isClock_eq, if_pos hc, if_neg h0]
    exact why_range v rfl rfl 2 ⟨hlo, hhi⟩
  · rw [updL0, hval]
theorem sem_move (hI : Inv (bm, sp, ph, sg, st, wy, ks, nt, gv, se, tk, kk, sk, pl, ld) (sbm, ssp, sph, ssg, sst, swy, sks, snt, sgv, sse, stk, skk, ssk, spl, sld) sn size cc now shot book codes tx len clk) (k b : Nat) (hk : k < 8) (hb : b < 3) (hc : f_X5_isClock (nI k) = true) (hcb : f_X5_isBeam (nI b) = true) (hh : ¬ f_X4_hangsOn bm k (nI b) = true) : ∀ u1 u2, u1 = (f_L_move_N bm sp ph sg st wy ks nt gv se tk kk sk pl ld size qa cc out k (nI b)) → u2 = (f_X6_move size now book k b) → u2.2.1 = u1.1 ∧ (u1.1 = 0 → u1.2.2.2.2.2.2 0 = (u2.1).toInt64) ∧ u2.2.2.1 = u1.2.2.2.1 ∧ Inv (u1.2.1, sp, ph, sg, st, wy, ks, u1.2.2.1, gv, se, tk, kk, sk, pl, ld) (sbm, ssp, sph, ssg, sst, swy, sks, snt, sgv, sse, stk, skk, ssk, spl, sld) sn u1.2.2.2.1 u1.2.2.2.2.2.1 u2.2.2.2.1 shot u2.2.2.2.2 codes tx len clk := by
  intro u1 u2 h1 h2
  obtain ⟨hRel, hRng, hShot, hRngS, hHs, hrest⟩ := hI
  have hRng : Rng bm sp ph se := hRng
  have hsv := hist_save hHs hRel hRng
  have hr := Rel_move hRel hk (nI b)
  have hrg : Rng (f_X4_hangOn bm nt k (nI b)).1 sp ph se := hRng.move (vp_in_nI hb (by decide))
  have hval : (f_X6_doMove now k (nI b)).1 = f_J6_bitCount_0f7a4 (f_X4_maskOfBeam (f_X4_hangOn bm nt k (nI b)).1 (nI b)) - (1 : Int32) := doMove_val hRel hk (nI b)
  have hne : ¬ f_X6_beamOf now k = nI b := fun q => hh ((r_gave hRel hk).mp q)
  unfold f_L_move_N f_X5_move at h1
  unfold f_X6_move at h2
  subst h1
  subst h2
  dsimp only
  generalize f_X4_hangOn bm nt k (nI b) = A at hr hrg hval ⊢
  generalize f_X6_doMove now k (nI b) = C at hr hval ⊢
  refine ⟨?_, fun _ => ?_, save_new _ _ _, hr, hrg, hShot, hRngS, hsv, hrest⟩
  · show (if (if f_X6_isClock (nI k) = true then (if f_X6_isBeam (nI b) = true then true else false) else false) = true then (if f_X6_beamOf now k = nI b then (2 : Int32) else (0 : Int32)) else (1 : Int32)) = 0
    rw [isClock_eq, isBeam_eq, if_pos hc, if_pos hcb, if_pos rfl, if_neg hne]
  · rw [updL0, hval]
theorem sem_wind (hI : Inv (bm, sp, ph, sg, st, wy, ks, nt, gv, se, tk, kk, sk, pl, ld) (sbm, ssp, sph, ssg, sst, swy, sks, snt, sgv, sse, stk, skk, ssk, spl, sld) sn size cc now shot book codes tx len clk) (k : Nat) (hk : k < 8) (hc : f_X5_isClock (nI k) = true) : ∀ u1 u2, u1 = (f_L_wind_N bm sp ph sg st wy ks nt gv se tk kk sk pl ld size qa cc out k) → u2 = (f_X6_wind size now book k) → u2.2.1 = u1.1 ∧ (u1.1 = 0 → u1.2.2.2.2.2 0 = (u2.1).toInt64) ∧ u2.2.2.1 = u1.2.2.1 ∧ Inv (bm, sp, ph, u1.2.1, st, wy, ks, nt, gv, se, tk, kk, sk, pl, ld) (sbm, ssp, sph, ssg, sst, swy, sks, snt, sgv, sse, stk, skk, ssk, spl, sld) sn u1.2.2.1 u1.2.2.2.2.1 u2.2.2.2.1 shot u2.2.2.2.2 codes tx len clk := by
  intro u1 u2 h1 h2
  obtain ⟨hRel, hRng, hShot, hRngS, hHs, hrest⟩ := hI
  have hsv := hist_save hHs hRel hRng
  have hr := hRel.clk3 hk 99
  unfold f_L_wind_N f_X5_wind f_X4_windUp at h1
  unfold f_X6_wind f_X6_doWind at h2
  subst h1
  subst h2
  dsimp only
  refine ⟨?_, fun _ => ?_, save_new _ _ _, hr, hRng, hShot, hRngS, hsv, hrest⟩
  · rw [isClock_eq, hc]
    rfl
  · rw [updL0, pk_us, hRel.e3 hk]
theorem sem_speed (hI : Inv (bm, sp, ph, sg, st, wy, ks, nt, gv, se, tk, kk, sk, pl, ld) (sbm, ssp, sph, ssg, sst, swy, sks, snt, sgv, sse, stk, skk, ssk, spl, sld) sn size cc now shot book codes tx len clk) (k : Nat) (v : Int32) (hk : k < 8) (hc : f_X5_isClock (nI k) = true) (hlo : ¬ v < (10 : Int32)) (hhi : v ≤ (60 : Int32)) : ∀ u1 u2, u1 = (f_L_speed_N bm sp ph sg st wy ks nt gv se tk kk sk pl ld size qa cc out k v) → u2 = (f_X6_speed size now book k v) → u2.2.1 = u1.1 ∧ (u1.1 = 0 → u1.2.2.2.2.2 0 = (u2.1).toInt64) ∧ u2.2.2.1 = u1.2.2.1 ∧ Inv (bm, u1.2.1, ph, sg, st, wy, ks, nt, gv, se, tk, kk, sk, pl, ld) (sbm, ssp, sph, ssg, sst, swy, sks, snt, sgv, sse, stk, skk, ssk, spl, sld) sn u1.2.2.1 u1.2.2.2.2.1 u2.2.2.2.1 shot u2.2.2.2.2 codes tx len clk := by
  intro u1 u2 h1 h2
  obtain ⟨hRel, hRng, hShot, hRngS, hHs, hrest⟩ := hI
  have hRng : Rng bm sp ph se := hRng
  have hsv := hist_save hHs hRel hRng
  have hr := hRel.clk1 hk v
  have hrg : Rng bm (upd sp k v) ph se := by
    refine ⟨hRng.1, fun j hj => ?_, hRng.2.2⟩
    by_cases e : j = k
    · subst e
      rw [pk_us]
      have z1 : (10 : Int32).toInt = 10 := rfl
      have z6 : (60 : Int32).toInt = 60 := rfl
      have a1 : ¬ v.toInt < (10 : Int32).toInt := fun q => hlo (Int32.lt_iff_toInt_lt.mpr q)
      have a2 := Int32.le_iff_toInt_le.mp hhi
      omega
    · rw [pk_un e]
      exact hRng.2.1 j hj
  unfold f_L_speed_N f_X5_speed at h1
  unfold f_X6_speed f_X6_put at h2
  subst h1
  subst h2
  dsimp only
  refine ⟨?_, fun _ => ?_, save_new _ _ _, hr, hrg, hShot, hRngS, hsv, hrest⟩
  · show (if f_X6_isClock (nI k) = true then _ else (1 : Int32)) = 0
    rw [isClock_eq, if_pos hc]
    exact why_range v rfl rfl 2 ⟨hlo, hhi⟩
  · rw [updL0, hRel.e1 hk]
theorem sem_give (hI : Inv (bm, sp, ph, sg, st, wy, ks, nt, gv, se, tk, kk, sk, pl, ld) (sbm, ssp, sph, ssg, sst, swy, sks, snt, sgv, sse, stk, skk, ssk, spl, sld) sn size cc now shot book codes tx len clk) (b : Nat) (v : Int32) (hb : b < 3) (hc : f_X5_isBeam (nI b) = true) (hlo : ¬ v < (0 : Int32)) (hhi : v ≤ (20 : Int32)) : ∀ u1 u2, u1 = (f_L_give_N bm sp ph sg st wy ks nt gv se tk kk sk pl ld size qa cc out b v) → u2 = (f_X6_give size now book b v) → u2.2.1 = u1.1 ∧ (u1.1 = 0 → u1.2.2.2.2.2 0 = (u2.1).toInt64) ∧ u2.2.2.1 = u1.2.2.1 ∧ Inv (bm, sp, ph, sg, st, wy, ks, nt, u1.2.1, se, tk, kk, sk, pl, ld) (sbm, ssp, sph, ssg, sst, swy, sks, snt, sgv, sse, stk, skk, ssk, spl, sld) sn u1.2.2.1 u1.2.2.2.2.1 u2.2.2.2.1 shot u2.2.2.2.2 codes tx len clk := by
  intro u1 u2 h1 h2
  obtain ⟨hRel, hRng, hShot, hRngS, hHs, hrest⟩ := hI
  have hsv := hist_save hHs hRel hRng
  have hr := hRel.gv hb v
  unfold f_L_give_N f_X5_give at h1
  unfold f_X6_give f_X6_put at h2
  subst h1
  subst h2
  dsimp only
  refine ⟨?_, fun _ => ?_, save_new _ _ _, hr, hRng, hShot, hRngS, hsv, hrest⟩
  · show (if f_X6_isBeam (nI b) = true then _ else (1 : Int32)) = 0
    rw [isBeam_eq, if_pos hc]
    exact why_range v rfl rfl 2 ⟨hlo, hhi⟩
  · rw [updL0, hRel.eg hb]
theorem sem_set (hI : Inv (bm, sp, ph, sg, st, wy, ks, nt, gv, se, tk, kk, sk, pl, ld) (sbm, ssp, sph, ssg, sst, swy, sks, snt, sgv, sse, stk, skk, ssk, spl, sld) sn size cc now shot book codes tx len clk) (k : Nat) (v : Int32) (hk : k < 3) (hc : f_X5_isSetting (nI k) = true) (hlo : ¬ v < f_X5_leastOfSetting (nI k)) (hhi : v ≤ f_X5_mostOfSetting (nI k)) : ∀ u1 u2, u1 = (f_L_set_N bm sp ph sg st wy ks nt gv se tk kk sk pl ld size qa cc out k v) → u2 = (f_X6_set size now book k v) → u2.2.1 = u1.1 ∧ (u1.1 = 0 → u1.2.2.2.2.2 0 = (u2.1).toInt64) ∧ u2.2.2.1 = u1.2.2.1 ∧ Inv (bm, sp, ph, sg, st, wy, ks, nt, gv, u1.2.1, tk, kk, sk, pl, ld) (sbm, ssp, sph, ssg, sst, swy, sks, snt, sgv, sse, stk, skk, ssk, spl, sld) sn u1.2.2.1 u1.2.2.2.2.1 u2.2.2.2.1 shot u2.2.2.2.2 codes tx len clk := by
  intro u1 u2 h1 h2
  obtain ⟨hRel, hRng, hShot, hRngS, hHs, hrest⟩ := hI
  have hRng : Rng bm sp ph se := hRng
  have hsv := hist_save hHs hRel hRng
  have hr := hRel.se hk v
  have hrg : Rng bm sp ph (upd se k v) := by
    refine ⟨hRng.1, hRng.2.1, hRng.2.2.1, ?_⟩
    by_cases e : 0 = k
    · subst e
      rw [pk_us]
      have z1 : (f_X5_leastOfSetting (nI 0)).toInt = 0 := rfl
      have z6 : (f_X5_mostOfSetting (nI 0)).toInt = 50 := rfl
      have a1 : ¬ v.toInt < (f_X5_leastOfSetting (nI 0)).toInt := fun q => hlo (Int32.lt_iff_toInt_lt.mpr q)
      have a2 := Int32.le_iff_toInt_le.mp hhi
      omega
    · rw [pk_un e]
      exact hRng.2.2.2
  unfold f_L_set_N f_X5_set at h1
  unfold f_X6_set f_X6_put at h2
  subst h1
  subst h2
  dsimp only
  refine ⟨?_, fun _ => ?_, save_new _ _ _, hr, hrg, hShot, hRngS, hsv, hrest⟩
  · show (if f_X6_in ((nI k).toInt64) (0 : Int64) (2 : Int64) = true then (if f_X6_isSet (nI k) v = true then (0 : Int32) else (2 : Int32)) else (1 : Int32)) = 0
    rw [isSet_eq, if_pos hc, if_pos ((why_set k hk v).mpr ⟨hlo, hhi⟩)]
  · rw [updL0, hRel.es hk]
theorem sem_append (hI : Inv (bm, sp, ph, sg, st, wy, ks, nt, gv, se, tk, kk, sk, pl, ld) (sbm, ssp, sph, ssg, sst, swy, sks, snt, sgv, sse, stk, skk, ssk, spl, sld) sn size cc now shot book codes tx len clk) (v : Int32) (hlo : ¬ v < (33 : Int32)) (hhi : v ≤ (126 : Int32)) (hf : ¬ f_X3_isFull len = true) : ∀ u1 u2, u1 = (f_L_append_N codes len out v) → u2 = (f_X6_append len tx v) → u2.2.1 = u1.1 ∧ (u1.1 = 0 → u1.2.2.2 0 = (u2.1).toInt64) ∧ u2.2.2.1 = u1.2.2.1 ∧ Inv (bm, sp, ph, sg, st, wy, ks, nt, gv, se, tk, kk, sk, pl, ld) (sbm, ssp, sph, ssg, sst, swy, sks, snt, sgv, sse, stk, skk, ssk, spl, sld) sn size cc now shot book u1.2.1 u2.2.2.2 u1.2.2.1 clk := by
  intro u1 u2 h1 h2
  obtain ⟨hRel, hRng, hShot, hRngS, hHs, hlen, hsame, hchs, hclk⟩ := hI
  have hlt : len < 60 := by
    unfold f_X3_isFull at hf
    by_cases c : len < 60
    · exact c
    · rw [if_neg c] at hf
      exact absurd rfl hf
  unfold f_L_append_N f_X5_append f_X3_add at h1
  rw [if_neg hf] at h1
  unfold f_X6_append at h2
  subst h1
  subst h2
  dsimp only
  refine ⟨?_, fun _ => ?_, rfl, hRel, hRng, hShot, hRngS, hHs, by omega, fun j hj => ?_, fun j hj => ?_, hclk⟩
  · show (if f_X6_in v.toInt64 (33 : Int64) (126 : Int64) = true then (if len = 60 then (2 : Int32) else (0 : Int32)) else (1 : Int32)) = 0
    rw [if_pos ((rin v 33 126 33 126 rfl rfl).mpr ⟨hlo, hhi⟩), if_neg (by omega)]
  · rw [updL0]
  · by_cases e : j = len
    · subst e
      rw [pk_us, pk_us]
    · rw [pk_un e, pk_un e]
      exact hsame j (by omega)
  · by_cases e : j = len
    · subst e
      rw [pk_us]
      have z1 : (33 : Int32).toInt = 33 := rfl
      have z6 : (126 : Int32).toInt = 126 := rfl
      have a1 : ¬ v.toInt < (33 : Int32).toInt := fun q => hlo (Int32.lt_iff_toInt_lt.mpr q)
      have a2 := Int32.le_iff_toInt_le.mp hhi
      omega
    · rw [pk_un e]
      exact hchs j (by omega)
end SEM
