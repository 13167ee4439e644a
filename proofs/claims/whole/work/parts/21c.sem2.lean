/-! what each call answers, and what holds behind it: the others -/
section SEM2
variable {bm sp ph sg st wy ks nt gv se pl ld : Nat → Int32} {tk kk sk : Int32} {tbm tsp tph tsg tst twy tks tnt tgv tse tpl tld : Nat → Int32} {ttk tkk tsk : Int32} {sbm ssp sph ssg sst swy sks snt sgv sse spl sld : Nat → Int32} {stk skk ssk : Int32} {sn : Bool} {size : Nat} {qa : Nat → Nat → Nat} {cc : Nat → StT} {codes : Nat → Int32} {len due : Nat} {let_ clk : Int32} {bak : Bool} {num refusal : Int32} {at_ : Nat} {good runs : Bool} {did : Int32} {now trial shot book rp gr tx : Nat → Int32} {out : Nat → Int64}
theorem sem_obey (hI : Inv (bm, sp, ph, sg, st, wy, ks, nt, gv, se, tk, kk, sk, pl, ld) (sbm, ssp, sph, ssg, sst, swy, sks, snt, sgv, sse, stk, skk, ssk, spl, sld) sn size cc now shot book codes tx len clk) (hcomp : (f_X3_isComplete codes len let_ clk bak num).1 = true) : ∀ u1 u2, u1 = (f_L_obey_N bm sp ph sg st wy ks nt gv se tk kk sk pl ld size qa cc codes len let_ clk bak num out) → u2 = (f_X6_obey size len now book rp tx) → u2.2.1 = u1.1 ∧ (u1.1 = 0 → u1.2.2.2.2.2.2.2.2.2.2.2.2.2.2.2.2.2.2.2.2.2 0 = (u2.1).toInt64) ∧ u2.2.2.1 = u1.2.2.2.2.2.2.2.2.2.2.2.2.1 ∧ u2.2.2.2.1 = u1.2.2.2.2.2.2.2.2.2.2.2.2.2.2.2.1 ∧ Inv (u1.2.1, sp, u1.2.2.1, u1.2.2.2.1, u1.2.2.2.2.1, u1.2.2.2.2.2.1, u1.2.2.2.2.2.2.1, u1.2.2.2.2.2.2.2.1, gv, se, u1.2.2.2.2.2.2.2.2.1, u1.2.2.2.2.2.2.2.2.2.1, u1.2.2.2.2.2.2.2.2.2.2.1, u1.2.2.2.2.2.2.2.2.2.2.2.1, ld) (sbm, ssp, sph, ssg, sst, swy, sks, snt, sgv, sse, stk, skk, ssk, spl, sld) sn u1.2.2.2.2.2.2.2.2.2.2.2.2.1 u1.2.2.2.2.2.2.2.2.2.2.2.2.2.2.1 u2.2.2.2.2.2.2.2.2.1 shot u2.2.2.2.2.2.2.2.2.2.1 codes tx u1.2.2.2.2.2.2.2.2.2.2.2.2.2.2.2.1 u1.2.2.2.2.2.2.2.2.2.2.2.2.2.2.2.2.2.2.1 := by
  intro u1 u2 h1 h2
  obtain ⟨hRel, hRng, hShot, hRngS, hHs, hlen, hsame, hchs, hclk⟩ := hI
  have hsv := hist_save hHs hRel hRng
  have hr0 : (f_X6_read len now rp tx false).1 = true := ((r_complete hsame hchs hlen now rp let_ clk num bak).1).trans hcomp
  have ho := r_obey hsame hchs hlen hRel hRng rp book size size qa cc (L := let_) (K := clk) (N := num) (B := bak) hr0
  have hq : (f_X6_obey size len now book rp tx).2.1 = 0 := by
    show bI (if (f_X6_read len now rp tx false).1 = true then false else true) = 0
    rw [hr0]
    rfl
  have hq2 : (f_X6_obey size len now book rp tx).2.2.2.1 = 0 := rfl
  have hz1 : (f_X5_obey bm sp ph sg st wy ks nt gv se tk kk sk pl ld size qa cc codes len let_ clk bak num).2.2.2.2.2.2.2.2.2.2.2.2.1 = hsz size := by rw [obI_eq]; rfl
  have hz3 : (f_X5_obey bm sp ph sg st wy ks nt gv se tk kk sk pl ld size qa cc codes len let_ clk bak num).2.2.2.2.2.2.2.2.2.2.2.2.2.2.1 = hcc size cc (bm, sp, ph, sg, st, wy, ks, nt, gv, se, tk, kk, sk, pl, ld) := by rw [obI_eq]; rfl
  have hz4 : (f_X5_obey bm sp ph sg st wy ks nt gv se tk kk sk pl ld size qa cc codes len let_ clk bak num).2.2.2.2.2.2.2.2.2.2.2.2.2.2.2.1 = 0 := by rw [obI_eq]; rfl
  unfold f_L_obey_N at h1
  subst h1
  subst h2
  dsimp only
  generalize f_X5_obey bm sp ph sg st wy ks nt gv se tk kk sk pl ld size qa cc codes len let_ clk bak num = A at ho hz1 hz3 hz4 ⊢
  generalize f_X6_obey size len now book rp tx = C at ho hq hq2 ⊢
  obtain ⟨e1, ⟨e2, e3⟩, e4, e5, e6⟩ := ho
  refine ⟨hq, fun _ => ?_, ?_, ?_, e2.wk, e3, hShot, hRngS, ?_, ?_, fun j hj => ?_, fun j hj => ?_, e4 hclk⟩
  · rw [updL0, e1]
  · rw [hz1, e5]
    exact save_new _ _ _
  · rw [hz4, hq2]
  · rw [hz1, hz3, e6]
    exact hsv
  · rw [hz4]
    exact Nat.zero_le _
  · rw [hz4] at hj
    omega
  · rw [hz4] at hj
    omega
theorem sem_obeyT (hI : Inv (bm, sp, ph, sg, st, wy, ks, nt, gv, se, tk, kk, sk, pl, ld) (sbm, ssp, sph, ssg, sst, swy, sks, snt, sgv, sse, stk, skk, ssk, spl, sld) sn size cc now shot book codes tx len clk) (hcomp : ¬ (f_X3_isComplete codes len let_ clk bak num).1 = true) : ∀ u1 u2, u1 = (f_L_obey_T10 codes len let_ clk bak num) → u2 = (f_X6_obey_R len now rp tx) → u2.2.1 = u1.1 ∧ (u1.1 = 0 → out 0 = (u2.1).toInt64) ∧ Inv (bm, sp, ph, sg, st, wy, ks, nt, gv, se, tk, kk, sk, pl, ld) (sbm, ssp, sph, ssg, sst, swy, sks, snt, sgv, sse, stk, skk, ssk, spl, sld) sn size cc u2.2.2.2.2.2.2.1 shot book codes tx len u1.2.2.2.1 := by
  intro u1 u2 h1 h2
  obtain ⟨hRel, hRng, hShot, hRngS, hHs, hlen, hsame, hchs, hclk⟩ := hI
  have hrc := (r_complete hsame hchs hlen now rp let_ clk num bak).1
  have hr0 : (f_X6_read len now rp tx false).1 = false := by
    cases q : (f_X6_read len now rp tx false).1
    · rfl
    · rw [q] at hrc
      exact absurd hrc.symm hcomp
  obtain ⟨er, ep, -⟩ := read_0 hsame hchs hlen now rp let_ clk num bak
  have hk := comp_clk (codes := codes) (len := len) (L := let_) (N := num) (B := bak) hclk
  unfold f_L_obey_T10 f_X5_obey_T10 at h1
  unfold f_X6_obey_R at h2
  subst h1
  subst h2
  dsimp only
  rw [er]
  generalize f_X3_isComplete codes len let_ clk bak num = A at hk ⊢
  generalize f_X6_read len now rp tx false = C at hr0 ⊢
  refine ⟨?_, fun q => absurd q (by decide), hRel, hRng, hShot, hRngS, hHs, hlen, hsame, hchs, hk⟩
  rw [hr0]
  rfl
theorem sem_goBack (hI : Inv (bm, sp, ph, sg, st, wy, ks, nt, gv, se, tk, kk, sk, pl, ld) (sbm, ssp, sph, ssg, sst, swy, sks, snt, sgv, sse, stk, skk, ssk, spl, sld) sn size cc now shot book codes tx len clk) (hsn : sn = true) : ∀ u1 u2, u1 = (f_L_goBack_N bm sp ph sg st wy ks nt gv se tk kk sk pl ld sbm ssp sph ssg sst swy sks snt sgv sse stk skk ssk size qa cc out) → u2 = (f_X6_goBack sn size now shot book) → u2.2.1 = u1.1 ∧ (u1.1 = 0 → u1.2.2.2.2.2.2.2.2.2.2.2.2.2.2.2.2.2 0 = (u2.1).toInt64) ∧ u2.2.2.1 = u1.2.2.2.2.2.2.2.2.2.2.2.2.2.2.1 ∧ Inv (u1.2.1, u1.2.2.1, u1.2.2.2.1, u1.2.2.2.2.1, u1.2.2.2.2.2.1, u1.2.2.2.2.2.2.1, u1.2.2.2.2.2.2.2.1, u1.2.2.2.2.2.2.2.2.1, u1.2.2.2.2.2.2.2.2.2.1, u1.2.2.2.2.2.2.2.2.2.2.1, u1.2.2.2.2.2.2.2.2.2.2.2.1, u1.2.2.2.2.2.2.2.2.2.2.2.2.1, u1.2.2.2.2.2.2.2.2.2.2.2.2.2.1, pl, ld) (sbm, ssp, sph, ssg, sst, swy, sks, snt, sgv, sse, stk, skk, ssk, spl, sld) sn u1.2.2.2.2.2.2.2.2.2.2.2.2.2.2.1 u1.2.2.2.2.2.2.2.2.2.2.2.2.2.2.2.2.1 u2.2.2.2.1 shot u2.2.2.2.2 codes tx len clk := by
  intro u1 u2 h1 h2
  obtain ⟨hRel, hRng, hShot, hRngS, hHs, hrest⟩ := hI
  have hsv := hist_save hHs hRel hRng
  have hr := hShot hsn
  unfold f_L_goBack_N f_X5_goBack at h1
  unfold f_X6_goBack at h2
  subst h1
  subst h2
  dsimp only
  refine ⟨?_, fun _ => ?_, save_new _ _ _, hr.wk, hRngS, hShot, hRngS, hsv, hrest⟩
  · rw [hsn]
    rfl
  · rw [updL0, hr.et]
theorem Rel.any {z : StT} {row : Nat → Int32} (h : Rel z row) (pl ld : Nat → Int32) : Rel (z.1, z.2.1, z.2.2.1, z.2.2.2.1, z.2.2.2.2.1, z.2.2.2.2.2.1, z.2.2.2.2.2.2.1, z.2.2.2.2.2.2.2.1, z.2.2.2.2.2.2.2.2.1, z.2.2.2.2.2.2.2.2.2.1, z.2.2.2.2.2.2.2.2.2.2.1, z.2.2.2.2.2.2.2.2.2.2.2.1, z.2.2.2.2.2.2.2.2.2.2.2.2.1, pl, ld) row := h
theorem sem_undo (hI : Inv (bm, sp, ph, sg, st, wy, ks, nt, gv, se, tk, kk, sk, pl, ld) (sbm, ssp, sph, ssg, sst, swy, sks, snt, sgv, sse, stk, skk, ssk, spl, sld) sn size cc now shot book codes tx len clk) (h1s : 1 ≤ size) : ∀ u1 u2, u1 = (f_L_undo_N size cc out) → u2 = (f_X6_undo size now book) → u2.2.1 = u1.1 ∧ (u1.1 = 0 → u1.2.2.2.2.2.2.2.2.2.2.2.2.2.2.2 0 = (u2.1).toInt64) ∧ u2.2.2.1 = u1.2.2.2.2.2.2.2.2.2.2.2.2.2.2.1 ∧ Inv (u1.2.1, u1.2.2.1, u1.2.2.2.1, u1.2.2.2.2.1, u1.2.2.2.2.2.1, u1.2.2.2.2.2.2.1, u1.2.2.2.2.2.2.2.1, u1.2.2.2.2.2.2.2.2.1, u1.2.2.2.2.2.2.2.2.2.1, u1.2.2.2.2.2.2.2.2.2.2.1, u1.2.2.2.2.2.2.2.2.2.2.2.1, u1.2.2.2.2.2.2.2.2.2.2.2.2.1, u1.2.2.2.2.2.2.2.2.2.2.2.2.2.1, pl, ld) (sbm, ssp, sph, ssg, sst, swy, sks, snt, sgv, sse, stk, skk, ssk, spl, sld) sn u1.2.2.2.2.2.2.2.2.2.2.2.2.2.2.1 cc u2.2.2.2 shot book codes tx len clk := by
  intro u1 u2 h1 h2
  obtain ⟨hRel, hRng, hShot, hRngS, hHs, hrest⟩ := hI
  obtain ⟨g1, g2, g3⟩ := hist_undo (now := now) hHs h1s
  have h6 := hHs.1
  have hq : (f_X6_undo size now book).2.1 = 0 := by
    show bI (if nI size = 0 then true else false) = 0
    rw [if_neg (nI_ne0 (by omega) (by omega))]
    rfl
  have hq1 : (f_X6_undo size now book).1 = nI (size - 1) := rfl
  have hq2 : (f_X6_undo size now book).2.2.1 = size - 1 := rfl
  unfold f_L_undo_N f_X5_undo at h1
  subst h1
  subst h2
  dsimp only
  generalize f_X6_undo size now book = C at g2 hq hq1 hq2 ⊢
  refine ⟨hq, fun _ => ?_, hq2, g2.any _ _, g3, hShot, hRngS, g1, hrest⟩
  rw [updL0, hq1]
theorem sem_clock (hI : Inv (bm, sp, ph, sg, st, wy, ks, nt, gv, se, tk, kk, sk, pl, ld) (sbm, ssp, sph, ssg, sst, swy, sks, snt, sgv, sse, stk, skk, ssk, spl, sld) sn size cc now shot book codes tx len clk) (k w : Nat) (hk : k < 8) (hw : w < 11) (hc : f_X5_isClock (nI k) = true) : ∀ u1 u2, u1 = (f_L_clock_N bm sp ph sg st wy ks nt gv se out k (nI w)) → u2 = (f_X6_clock now gr k w) → u2.2.1 = u1.1 ∧ (u1.1 = 0 → u1.2 0 = (u2.1).toInt64) ∧ Inv (bm, sp, ph, sg, st, wy, ks, nt, gv, se, tk, kk, sk, pl, ld) (sbm, ssp, sph, ssg, sst, swy, sks, snt, sgv, sse, stk, skk, ssk, spl, sld) sn size cc now shot book codes tx len clk := by
  intro u1 u2 h1 h2
  have hI0 := hI
  obtain ⟨hRel, hRng, hShot, hRngS, hHs, hrest⟩ := hI
  have ht := r_tellClock hRel hRng gr hk hw
  unfold f_L_clock_N f_X5_clock at h1
  unfold f_X6_clock at h2
  subst h1
  subst h2
  dsimp only
  generalize f_X6_tellClock now gr k w = C at ht ⊢
  refine ⟨?_, fun _ => ?_, hI0⟩
  · show (if f_X6_isClock (nI k) = true then _ else (1 : Int32)) = 0
    have z : (nI w).toInt = w := nI_toInt (by omega)
    have z0 : (0 : Int32).toInt = 0 := rfl
    have z10 : (10 : Int32).toInt = 10 := rfl
    rw [isClock_eq, if_pos hc]
    exact why_range (lo := 0) (hi := 10) (nI w) rfl rfl 2 ⟨fun q => by have := Int32.lt_iff_toInt_lt.mp q; omega, Int32.le_iff_toInt_le.mpr (by omega)⟩
  · rw [updL0, ht]
theorem sem_pair (hI : Inv (bm, sp, ph, sg, st, wy, ks, nt, gv, se, tk, kk, sk, pl, ld) (sbm, ssp, sph, ssg, sst, swy, sks, snt, sgv, sse, stk, skk, ssk, spl, sld) sn size cc now shot book codes tx len clk) (k o : Nat) (w : Int32) (hk : k < 8) (ho : o < 8) (hne : k ≠ o) (hc : f_X5_isPair (nI k) (nI o) = true) (hlo : ¬ w < (0 : Int32)) (hhi : w ≤ (2 : Int32)) : ∀ u1 u2, u1 = (f_L_pair_N bm ph sg nt se out k o w) → u2 = (f_X6_pair now k o w) → u2.2 = u1.1 ∧ (u1.1 = 0 → u1.2 0 = (u2.1).toInt64) ∧ Inv (bm, sp, ph, sg, st, wy, ks, nt, gv, se, tk, kk, sk, pl, ld) (sbm, ssp, sph, ssg, sst, swy, sks, snt, sgv, sse, stk, skk, ssk, spl, sld) sn size cc now shot book codes tx len clk := by
  intro u1 u2 h1 h2
  have hI0 := hI
  obtain ⟨hRel, hRng, hShot, hRngS, hHs, hrest⟩ := hI
  have ht := r_tellPair hRel hRng hk ho hne w
  unfold f_L_pair_N f_X5_pair at h1
  unfold f_X6_pair at h2
  subst h1
  subst h2
  dsimp only
  refine ⟨?_, fun _ => ?_, hI0⟩
  · show (if f_X6_isPair (nI k) (nI o) = true then _ else (1 : Int32)) = 0
    rw [isPair_eq, if_pos hc]
    exact why_range w rfl rfl 2 ⟨hlo, hhi⟩
  · rw [updL0, ht]
theorem sem_beam (hI : Inv (bm, sp, ph, sg, st, wy, ks, nt, gv, se, tk, kk, sk, pl, ld) (sbm, ssp, sph, ssg, sst, swy, sks, snt, sgv, sse, stk, skk, ssk, spl, sld) sn size cc now shot book codes tx len clk) (b : Nat) (w : Int32) (hb : b < 3) (hc : f_X5_isBeam (nI b) = true) (hlo : ¬ w < (0 : Int32)) (hhi : w ≤ (4 : Int32)) : ∀ u1 u2, u1 = (f_L_beam_N bm ph sg gv se out (nI b) w) → u2 = (f_X6_beam now b w) → u2.2 = u1.1 ∧ (u1.1 = 0 → u1.2 0 = (u2.1).toInt64) ∧ Inv (bm, sp, ph, sg, st, wy, ks, nt, gv, se, tk, kk, sk, pl, ld) (sbm, ssp, sph, ssg, sst, swy, sks, snt, sgv, sse, stk, skk, ssk, spl, sld) sn size cc now shot book codes tx len clk := by
  intro u1 u2 h1 h2
  have hI0 := hI
  obtain ⟨hRel, hRng, hShot, hRngS, hHs, hrest⟩ := hI
  have ht := r_tellBeam hRel hRng hb w
  unfold f_L_beam_N f_X5_beam at h1
  unfold f_X6_beam at h2
  subst h1
  subst h2
  dsimp only
  refine ⟨?_, fun _ => ?_, hI0⟩
  · show (if f_X6_isBeam (nI b) = true then _ else (1 : Int32)) = 0
    rw [isBeam_eq, if_pos hc]
    exact why_range w rfl rfl 2 ⟨hlo, hhi⟩
  · rw [updL0, ht]
theorem sem_count (hI : Inv (bm, sp, ph, sg, st, wy, ks, nt, gv, se, tk, kk, sk, pl, ld) (sbm, ssp, sph, ssg, sst, swy, sks, snt, sgv, sse, stk, skk, ssk, spl, sld) sn size cc now shot book codes tx len clk) (w : Int32) (hlo : ¬ w < (0 : Int32)) (hhi : w ≤ (9 : Int32)) : ∀ u1 u2, u1 = (f_L_count_N sg st nt se tk kk sk ld size out w) → u2 = (f_X6_count size now gr w) → u2.2.1 = u1.1 ∧ (u1.1 = 0 → u1.2.2 0 = (u2.1).toInt64) ∧ Inv (bm, sp, ph, sg, st, wy, ks, nt, gv, se, tk, kk, sk, pl, u1.2.1) (sbm, ssp, sph, ssg, sst, swy, sks, snt, sgv, sse, stk, skk, ssk, spl, sld) sn size cc now shot book codes tx len clk := by
  intro u1 u2 h1 h2
  have hI0 := hI
  obtain ⟨hRel, hRng, hShot, hRngS, hHs, hrest⟩ := hI
  have ht := r_tellCount hRel size gr ld w
  unfold f_L_count_N f_X5_count at h1
  unfold f_X6_count at h2
  subst h1
  subst h2
  dsimp only
  generalize f_X6_tellCount size now gr w = C at ht ⊢
  generalize f_X4_numberOfAll sg st nt se tk kk sk ld w (nI size) = A at ht ⊢
  refine ⟨?_, fun _ => ?_, hRel.wk, hRng, hShot, hRngS, hHs, hrest⟩
  · show bI (if f_X6_in w.toInt64 (0 : Int64) (9 : Int64) = true then false else true) = 0
    rw [if_pos ((rin w 0 9 0 9 rfl rfl).mpr ⟨hlo, hhi⟩)]
    rfl
  · rw [updL0, ht]
theorem sem_setting (hI : Inv (bm, sp, ph, sg, st, wy, ks, nt, gv, se, tk, kk, sk, pl, ld) (sbm, ssp, sph, ssg, sst, swy, sks, snt, sgv, sse, stk, skk, ssk, spl, sld) sn size cc now shot book codes tx len clk) (k : Nat) (hk : k < 3) (hc : f_X5_isSetting (nI k) = true) : ∀ u1 u2, u1 = (f_L_setting_N se out k) → u2 = (f_X6_setting now k) → u2.2 = u1.1 ∧ (u1.1 = 0 → u1.2 0 = (u2.1).toInt64) ∧ Inv (bm, sp, ph, sg, st, wy, ks, nt, gv, se, tk, kk, sk, pl, ld) (sbm, ssp, sph, ssg, sst, swy, sks, snt, sgv, sse, stk, skk, ssk, spl, sld) sn size cc now shot book codes tx len clk := by
  intro u1 u2 h1 h2
  have hI0 := hI
  obtain ⟨hRel, hRng, hShot, hRngS, hHs, hrest⟩ := hI
  unfold f_L_setting_N f_X5_setting at h1
  unfold f_X6_setting at h2
  subst h1
  subst h2
  dsimp only
  refine ⟨?_, fun _ => ?_, hI0⟩
  · rw [isSet_eq, hc]
    rfl
  · rw [updL0, hRel.es hk]
theorem sem_ifPassed (hI : Inv (bm, sp, ph, sg, st, wy, ks, nt, gv, se, tk, kk, sk, pl, ld) (sbm, ssp, sph, ssg, sst, swy, sks, snt, sgv, sse, stk, skk, ssk, spl, sld) sn size cc now shot book codes tx len clk) (k : Nat) (n w : Int32) (hk : k < 8) (hc : f_X5_isClock (nI k) = true) (hn : f_X5_areTicksOfACall n = true) (hlo : ¬ w < (0 : Int32)) (hhi : w ≤ (2 : Int32)) : ∀ u1 u2, u1 = (f_L_ifPassed_N bm sp ph sg st wy ks nt gv se tk kk sk tpl out n k w) → u2 = (f_X6_ifPassed now rp gr n k w) → u2.2.1 = u1.1 ∧ (u1.1 = 0 → u1.2.2.2.2.2.2.2.2.2.2.2.2.2.2.2 0 = (u2.1).toInt64) ∧ Inv (bm, sp, ph, sg, st, wy, ks, nt, gv, se, tk, kk, sk, pl, ld) (sbm, ssp, sph, ssg, sst, swy, sks, snt, sgv, sse, stk, skk, ssk, spl, sld) sn size cc now shot book codes tx len clk := by
  intro u1 u2 h1 h2
  have hI0 := hI
  obtain ⟨hRel, hRng, hShot, hRngS, hHs, hrest⟩ := hI
  have ht := r_ifPassed hRel hRng tpl rp gr n hk w
  have hq : (f_X6_ifPassed now rp gr n k w).2.1 = 0 := by
    show (if f_X6_isClock (nI k) = true then (if f_X6_in n.toInt64 (1 : Int64) (200 : Int64) = true then (if f_X6_in w.toInt64 (0 : Int64) (2 : Int64) = true then (0 : Int32) else (2 : Int32)) else (2 : Int32)) else (1 : Int32)) = 0
    rw [isClock_eq, if_pos hc, ticks_in, if_pos hn]
    exact why_range w rfl rfl 2 ⟨hlo, hhi⟩
  unfold f_L_ifPassed_N at h1
  subst h1
  subst h2
  dsimp only
  generalize f_X5_ifPassed bm sp ph sg st wy ks nt gv se tk kk sk tpl n k w = A at ht ⊢
  generalize f_X6_ifPassed now rp gr n k w = C at ht hq ⊢
  refine ⟨hq, fun _ => ?_, hI0⟩
  rw [updL0, ht]
theorem sem_lockedIn (hI : Inv (bm, sp, ph, sg, st, wy, ks, nt, gv, se, tk, kk, sk, pl, ld) (sbm, ssp, sph, ssg, sst, swy, sks, snt, sgv, sse, stk, skk, ssk, spl, sld) sn size cc now shot book codes tx len clk) (k o : Nat) (hk : k < 8) (ho : o < 8) (hne : k ≠ o) (hc : f_X5_isPair (nI k) (nI o) = true) : ∀ u1 u2, u1 = (f_L_lockedIn_N bm sp ph sg st wy ks nt gv se tk kk sk tpl out k o) → u2 = (f_X6_lockedIn now rp k o) → u2.2.1 = u1.1 ∧ (u1.1 = 0 → u1.2.2.2.2.2.2.2.2.2.2.2.2.2.2.2 0 = (u2.1).toInt64) ∧ Inv (bm, sp, ph, sg, st, wy, ks, nt, gv, se, tk, kk, sk, pl, ld) (sbm, ssp, sph, ssg, sst, swy, sks, snt, sgv, sse, stk, skk, ssk, spl, sld) sn size cc now shot book codes tx len clk := by
  intro u1 u2 h1 h2
  have hI0 := hI
  obtain ⟨hRel, hRng, hShot, hRngS, hHs, hrest⟩ := hI
  have ht := r_locks hRel hRng tpl rp hk ho hne
  have hq : (f_X6_lockedIn now rp k o).2.1 = 0 := by
    show bI (if f_X6_isPair (nI k) (nI o) = true then false else true) = 0
    rw [isPair_eq, hc]
    rfl
  have hv : (f_X6_lockedIn now rp k o).1 = (f_X6_lockedBehind now rp k o).1 := rfl
  rw [ht] at hv
  unfold f_L_lockedIn_N f_X5_lockedIn at h1
  subst h1
  subst h2
  dsimp only
  generalize f_X5_ticksUntilLocked bm sp ph sg st wy ks nt gv se tk kk sk tpl k o = A at hv ⊢
  generalize f_X6_lockedIn now rp k o = C at hv hq ⊢
  refine ⟨hq, fun _ => ?_, hI0⟩
  rw [updL0, hv]
theorem sem_bestGive (hI : Inv (bm, sp, ph, sg, st, wy, ks, nt, gv, se, tk, kk, sk, pl, ld) (sbm, ssp, sph, ssg, sst, swy, sks, snt, sgv, sse, stk, skk, ssk, spl, sld) sn size cc now shot book codes tx len clk) (b : Nat) (hb : b < 3) (hc : f_X5_isBeam (nI b) = true) : ∀ u1 u2, u1 = (f_L_bestGive_N bm sp ph sg st wy ks nt gv se tk kk sk tbm tsp tph tsg tst twy tks tnt tgv tse ttk tkk tsk tpl tld out b) → u2 = (f_X6_bestGive now trial rp gr b) → u2.2.1 = u1.1 ∧ (u1.1 = 0 → u1.2.2.2.2.2.2.2.2.2.2.2.2.2.2.2.2 0 = (u2.1).toInt64) ∧ Inv (bm, sp, ph, sg, st, wy, ks, nt, gv, se, tk, kk, sk, pl, ld) (sbm, ssp, sph, ssg, sst, swy, sks, snt, sgv, sse, stk, skk, ssk, spl, sld) sn size cc now shot book codes tx len clk := by
  intro u1 u2 h1 h2
  have hI0 := hI
  obtain ⟨hRel, hRng, hShot, hRngS, hHs, hrest⟩ := hI
  have ht := r_best hRel hRng trial rp gr hb tbm tsp tph tsg tst twy tks tnt tgv tse ttk tkk tsk tpl tld
  have hq : (f_X6_bestGive now trial rp gr b).2.1 = 0 := by
    show bI (if f_X6_isBeam (nI b) = true then false else true) = 0
    rw [isBeam_eq, hc]
    rfl
  unfold f_L_bestGive_N at h1
  subst h1
  subst h2
  dsimp only
  generalize f_X5_bestGive bm sp ph sg st wy ks nt gv se tk kk sk tbm tsp tph tsg tst twy tks tnt tgv tse ttk tkk tsk tpl tld b = A at ht ⊢
  generalize f_X6_bestGive now trial rp gr b = C at ht hq ⊢
  refine ⟨hq, fun _ => ?_, hI0⟩
  rw [updL0, ht]
theorem sem_clearBuffer (hI : Inv (bm, sp, ph, sg, st, wy, ks, nt, gv, se, tk, kk, sk, pl, ld) (sbm, ssp, sph, ssg, sst, swy, sks, snt, sgv, sse, stk, skk, ssk, spl, sld) sn size cc now shot book codes tx len clk) : ∀ u1 u2, u1 = (f_X5_clearBuffer len) → u2 = (f_X6_clearBuffer len) → u1.1 = u2.1 ∧ u2.2.2 = u1.2 ∧ Inv (bm, sp, ph, sg, st, wy, ks, nt, gv, se, tk, kk, sk, pl, ld) (sbm, ssp, sph, ssg, sst, swy, sks, snt, sgv, sse, stk, skk, ssk, spl, sld) sn size cc now shot book codes tx u1.2 clk := by
  intro u1 u2 h1 h2
  obtain ⟨hRel, hRng, hShot, hRngS, hHs, hlen, hsame, hchs, hclk⟩ := hI
  unfold f_X5_clearBuffer at h1
  unfold f_X6_clearBuffer at h2
  subst h1
  subst h2
  exact ⟨rfl, rfl, hRel, hRng, hShot, hRngS, hHs, Nat.zero_le _, fun j hj => absurd hj (Nat.not_lt_zero j), fun j hj => absurd hj (Nat.not_lt_zero j), hclk⟩
theorem sem_firstError (hI : Inv (bm, sp, ph, sg, st, wy, ks, nt, gv, se, tk, kk, sk, pl, ld) (sbm, ssp, sph, ssg, sst, swy, sks, snt, sgv, sse, stk, skk, ssk, spl, sld) sn size cc now shot book codes tx len clk) : ∀ u1 u2, u1 = (f_X5_firstError codes len let_ clk bak num) → u2 = (f_X6_firstError len now rp tx) → u1.1 = u2.1 ∧ Inv (bm, sp, ph, sg, st, wy, ks, nt, gv, se, tk, kk, sk, pl, ld) (sbm, ssp, sph, ssg, sst, swy, sks, snt, sgv, sse, stk, skk, ssk, spl, sld) sn size cc u2.2.2.2.2.2.2.1 shot book codes tx len u1.2.2.2.1 := by
  intro u1 u2 h1 h2
  obtain ⟨hRel, hRng, hShot, hRngS, hHs, hlen, hsame, hchs, hclk⟩ := hI
  have he := r_error hsame hchs hlen now rp let_ clk num bak
  obtain ⟨er, ep, -⟩ := read_0 hsame hchs hlen now rp let_ clk num bak
  have hk := err_clk (codes := codes) (len := len) (L := let_) (N := num) (B := bak) hclk
  have hn : (f_X6_firstError len now rp tx).2.2.2.2.2.2.1 = now := er
  unfold f_X5_firstError at h1 he
  subst h1
  subst h2
  generalize f_X3_indexOfError codes len let_ clk bak num = A at hk he ⊢
  generalize f_X6_firstError len now rp tx = C at hn he ⊢
  refine ⟨he.symm, ?_, hRng, hShot, hRngS, hHs, hlen, hsame, hchs, hk⟩
  rw [hn]
  exact hRel
theorem sem_keep (hI : Inv (bm, sp, ph, sg, st, wy, ks, nt, gv, se, tk, kk, sk, pl, ld) (sbm, ssp, sph, ssg, sst, swy, sks, snt, sgv, sse, stk, skk, ssk, spl, sld) sn size cc now shot book codes tx len clk) : ∀ u1 u2, u1 = (f_X5_keep bm sp ph sg st wy ks nt gv se tk kk sk) → u2 = (f_X6_keep now) → u1.1 = u2.1 ∧ u2.2.2.1 = u1.2.1 ∧ Inv (bm, sp, ph, sg, st, wy, ks, nt, gv, se, tk, kk, sk, pl, ld) (u1.2.2.1, u1.2.2.2.1, u1.2.2.2.2.1, u1.2.2.2.2.2.1, u1.2.2.2.2.2.2.1, u1.2.2.2.2.2.2.2.1, u1.2.2.2.2.2.2.2.2.1, u1.2.2.2.2.2.2.2.2.2.1, u1.2.2.2.2.2.2.2.2.2.2.1, u1.2.2.2.2.2.2.2.2.2.2.2.1, u1.2.2.2.2.2.2.2.2.2.2.2.2.1, u1.2.2.2.2.2.2.2.2.2.2.2.2.2.1, u1.2.2.2.2.2.2.2.2.2.2.2.2.2.2, spl, sld) u1.2.1 size cc now u2.2.2.2 book codes tx len clk := by
  intro u1 u2 h1 h2
  obtain ⟨hRel, hRng, hShot, hRngS, hHs, hrest⟩ := hI
  unfold f_X5_keep at h1
  unfold f_X6_keep at h2
  subst h1
  subst h2
  exact ⟨hRel.et.symm, rfl, hRel, hRng, fun _ => hRel.wk, hRng, hHs, hrest⟩
theorem sem_nextStrike (hI : Inv (bm, sp, ph, sg, st, wy, ks, nt, gv, se, tk, kk, sk, pl, ld) (sbm, ssp, sph, ssg, sst, swy, sks, snt, sgv, sse, stk, skk, ssk, spl, sld) sn size cc now shot book codes tx len clk) : ∀ u1 u2, u1 = (f_X5_nextStrike bm sp ph sg st wy ks nt gv se tk kk sk tpl) → u2 = (f_X6_nextStrike now rp) → u1.1 = u2.1 ∧ Inv (bm, sp, ph, sg, st, wy, ks, nt, gv, se, tk, kk, sk, pl, ld) (sbm, ssp, sph, ssg, sst, swy, sks, snt, sgv, sse, stk, skk, ssk, spl, sld) sn size cc now shot book codes tx len clk := by
  intro u1 u2 h1 h2
  have hI0 := hI
  obtain ⟨hRel, hRng, hShot, hRngS, hHs, hrest⟩ := hI
  have ht := r_soon hRel hRng tpl rp
  have hv : (f_X6_nextStrike now rp).1 = (f_X6_soonest now rp).1 := rfl
  rw [ht] at hv
  subst h1
  subst h2
  exact ⟨hv.symm, hI0⟩
theorem sem_digest (hI : Inv (bm, sp, ph, sg, st, wy, ks, nt, gv, se, tk, kk, sk, pl, ld) (sbm, ssp, sph, ssg, sst, swy, sks, snt, sgv, sse, stk, skk, ssk, spl, sld) sn size cc now shot book codes tx len clk) : ∀ u1 u2, u1 = (f_X5_digest sn bm sp ph sg st wy ks nt gv se tk kk sk ld tpl size codes len) → u2 = (f_X6_digest sn size len now trial rp gr tx) → u1.1 = u2.1 ∧ Inv (bm, sp, ph, sg, st, wy, ks, nt, gv, se, tk, kk, sk, pl, u1.2.1) (sbm, ssp, sph, ssg, sst, swy, sks, snt, sgv, sse, stk, skk, ssk, spl, sld) sn size cc now shot book codes tx len clk := by
  intro u1 u2 h1 h2
  have hI0 := hI
  obtain ⟨hRel, hRng, hShot, hRngS, hHs, hlen, hsame, hchs, hclk⟩ := hI
  have ht := r_digest hRel hRng sn size hlen hsame trial rp gr ld tpl
  subst h1
  subst h2
  generalize f_X6_digest sn size len now trial rp gr tx = C at ht ⊢
  generalize f_X5_digest sn bm sp ph sg st wy ks nt gv se tk kk sk ld tpl size codes len = A at ht ⊢
  exact ⟨ht.symm, hRel.wk, hRng, hShot, hRngS, hHs, hlen, hsame, hchs, hclk⟩
end SEM2
