/-! the law's cases -/
theorem hrf0 {w : Int32} (h : w = 0) : ¬ (f_X6_refused w).1 = true := by rw [h]; decide
theorem hrf1 {w : Int32} (h : w = 1) : (f_X6_refused w).1 = true := by rw [h]; decide
theorem hrf2 {w : Int32} (h : w = 2) : (f_X6_refused w).1 = true := by rw [h]; decide
theorem pair_of {a b : Int32} (h : f_X5_isPair a b = true) : ∃ k o : Nat, k < 8 ∧ o < 8 ∧ k ≠ o ∧ a = nI k ∧ b = nI o := by
  unfold f_X5_isPair at h
  by_cases c1 : f_X5_isClock a = true
  · rw [if_pos c1] at h
    by_cases c2 : f_X5_isClock b = true
    · rw [if_pos c2] at h
      by_cases c3 : a = b
      · rw [if_pos c3] at h
        cases h
      · obtain ⟨k, hk, e1⟩ := vp_in_of (vp_isClock c1) (by decide)
        obtain ⟨o, ho, e2⟩ := vp_in_of (vp_isClock c2) (by decide)
        exact ⟨k, o, hk, ho, fun q => c3 (by rw [e1, e2, q]), e1, e2⟩
    · rw [if_neg c2] at h
      cases h
  · rw [if_neg c1] at h
    cases h
theorem cpw_X6_pass : CpV yX6_pass cX6_pass 2 (some (Jvm.ClassFile.FieldType.int)) 1 := ⟨aw_924, aw_922, aw_923, aw_73, by decide +kernel⟩
section OPS
variable {p : Program} {l : Launch} {e : Env} {s : State} {m : MethodId} {below : List Frame} {meth : Method} {c : Code} {H : Heap} {locs : List Loc} {cells slots : Nat} {Q : State → Prop} {G : va_G} {cI cS cL : ClassId} {ad : Nat → Nat} {mp b L : Nat} {xs : Nat → Int32} {i : Nat} {ls : Array Slot} {q qn qt qs qH qx q6 : Nat → Nat} {ao : Nat} {bs : List va_W}
set_option maxRecDepth 100000 in
set_option maxHeartbeats 8000000 in
theorem op_pass (h0 : LX p l s m c G cI cS cL ad mp b L xs) (hi : i + 3 < L) (hl : lv_has ls 9 [(4, .int (nI i)), (3, .ref ao), (2, .ref (q6 0)), (1, .ref (q 0)), (0, .ref b)]) (hW : Wok q qn qt qs qH qx q6 ao cI cS cL ad bs) (hP : va_P G classes bs.flatten H) (hD : va_D (fun q : Nat => s.heap.size ≤ q) bs.flatten) (hS : va_S (fun q : Nat => s.heap.size ≤ q) s.heap H locs) (hf : cells + 1 ≤ room_1.cells ∧ slots + 6 ≤ room_1.slots)
  (K : ∀ (bs : List va_W) (ls : Array Slot) (H : Heap) (locs : List Loc), Wok q qn qt qs qH qx q6 ao cI cS cL ad bs → lv_has ls 9 [(4, .int (nI i)), (3, .ref ao), (2, .ref (q6 0)), (1, .ref (q 0)), (0, .ref b)] → va_P G classes bs.flatten H → va_D (fun q : Nat => s.heap.size ≤ q) bs.flatten → va_S (fun q : Nat => s.heap.size ≤ q) s.heap H locs → W p l e room_1 s m #[Value.ref b] below meth c H locs (cells + 1) (slots + 6) Q (F0 m 1478 ls [])) : W p l e room_1 s m #[Value.ref b] below meth c H locs cells slots Q (F0 m 156 ls []) := by
  obtain ⟨sn, ⟨bm, sp, ph, sg, st, wy, ks, nt, gv, se, tk, kk, sk, pl, ld⟩, ⟨tbm, tsp, tph, tsg, tst, twy, tks, tnt, tgv, tse, ttk, tkk, tsk, tpl, tld⟩, ⟨sbm, ssp, sph, ssg, sst, swy, sks, snt, sgv, sse, stk, skk, ssk, spl, sld⟩, size, qa, cc, codes, len, due, let_, clk, bak, num, refusal, at_, good, runs, did, now, trial, shot, book, rp, gr, tx, out, rfl, hI⟩ := hW
  have hP : va_P G classes [tcC q qn qt qs qH qx sn, stC qn cI bm sp ph sg st wy ks nt gv se tk kk sk pl ld, stC qt cI tbm tsp tph tsg tst twy tks tnt tgv tse ttk tkk tsk tpl tld, stC qs cI sbm ssp sph ssg sst swy sks snt sgv sse stk skk ssk spl sld, hbC qH cI cS size qa cc, txC qx cI ad codes len due let_ clk bak num, mdC q6 refusal sn size len at_ good runs did, rwC (q6 1) cI 129 now, rwC (q6 2) cI 129 trial, rwC (q6 3) cI 129 shot, rwC (q6 4) cI 774 book, rwC (q6 5) cI 8 rp, rwC (q6 6) cI 8 gr, rwC (q6 7) cI 60 tx, lrC ao cL out].flatten H := hP
  have hD : va_D (fun q : Nat => s.heap.size ≤ q) [tcC q qn qt qs qH qx sn, stC qn cI bm sp ph sg st wy ks nt gv se tk kk sk pl ld, stC qt cI tbm tsp tph tsg tst twy tks tnt tgv tse ttk tkk tsk tpl tld, stC qs cI sbm ssp sph ssg sst swy sks snt sgv sse stk skk ssk spl sld, hbC qH cI cS size qa cc, txC qx cI ad codes len due let_ clk bak num, mdC q6 refusal sn size len at_ good runs did, rwC (q6 1) cI 129 now, rwC (q6 2) cI 129 trial, rwC (q6 3) cI 129 shot, rwC (q6 4) cI 774 book, rwC (q6 5) cI 8 rp, rwC (q6 6) cI 8 gr, rwC (q6 7) cI 60 tx, lrC ao cL out].flatten := hD
  obtain ⟨X, hC, hE, hX, hbl, hlt, hL⟩ := id h0
  have hx := X.1
  have hb := X.2.1
  have hA : ∀ q : Nat, s.heap.size ≤ q → (fun q : Nat => s.heap.size ≤ q) q := fun _ h => h
  have hf0 : cells ≤ room_1.cells ∧ slots ≤ room_1.slots := ⟨Nat.le_of_succ_le hf.1, Nat.le_trans (Nat.le_add_right _ _) hf.2⟩
  obtain ⟨hRel, hRng, hShot, hRngS, hHs, hlen, hsame, hchs, hclk⟩ := id hI
  have hIB := hRel.invB hRng
  have h6 := hHs.1
  obtain ⟨p1, e1⟩ : ∃ v, xs (i + 1) = v := ⟨_, rfl⟩
  by_cases c1 : f_X5_areTicksOfACall p1 = true
  ·
    have hw : (bI (if (f_X6_in p1.toInt64 (1 : Int64) (200 : Int64)) = true then false else true)) = 0 := by
      rw [ticks_in, if_pos c1]
      rfl
    refine lv_aload_n hx hb dL_law_156 rfl (lv_at hl 3 rfl) ?_
    refine ld_arg h0 hS (lv_sub hl [0, 4] rfl) 1 (by omega) e1 rfl dL_law_157 dL_law_158 dL_law_160 dL_law_161 dL_law_162 ?_
    refine lv_aload_n hx hb dL_law_163 rfl (lv_at hl 1 rfl) ?_
    have C1 := k_L_pass_N l G cI cS cL ad mp q qn qt qs qH qx ao sn bm sp ph sg st wy ks nt gv se tk kk sk pl ld size qa cc out p1 h6 c1
    obtain ⟨u1, hu1⟩ : ∃ u, u = (f_L_pass_N bm sp ph sg st wy ks nt gv se tk kk sk pl ld size qa cc out p1) := ⟨_, rfl⟩
    rw [← hu1] at C1
    refine cl_callS (As := [.ref (q 0), .int p1, .ref ao]) (rest := []) hE hC X hP hD hS hA C1 cpL_pass aw_531 ⟨Nat.le_of_ble_eq_true rfl, Nat.le_of_ble_eq_true rfl⟩ [0, 1, 4, 14] (cs := [tcC q qn qt qs qH qx sn, stC qn cI bm sp ph sg st wy ks nt gv se tk kk sk pl ld, hbC qH cI cS size qa cc, lrC ao cL out]) rfl (by decide) (cs' := [tcC q qn qt qs qH qx sn, stC qn cI bm sp u1.2.1 u1.2.2.1 u1.2.2.2.1 u1.2.2.2.2.1 ks u1.2.2.2.2.2.1 gv se u1.2.2.2.2.2.2.1 kk u1.2.2.2.2.2.2.2.1 u1.2.2.2.2.2.2.2.2.1 ld, hbC qH cI cS u1.2.2.2.2.2.2.2.2.2.1 u1.2.2.2.2.2.2.2.2.2.2.1 u1.2.2.2.2.2.2.2.2.2.2.2.1, lrC ao cL u1.2.2.2.2.2.2.2.2.2.2.2.2]) rfl rfl rfl hl.1 rfl (Nat.le_of_ble_eq_true rfl) dL_law_164 hf0 rfl (bs' := [tcC q qn qt qs qH qx sn, stC qn cI bm sp u1.2.1 u1.2.2.1 u1.2.2.2.1 u1.2.2.2.2.1 ks u1.2.2.2.2.2.1 gv se u1.2.2.2.2.2.2.1 kk u1.2.2.2.2.2.2.2.1 u1.2.2.2.2.2.2.2.2.1 ld, stC qt cI tbm tsp tph tsg tst twy tks tnt tgv tse ttk tkk tsk tpl tld, stC qs cI sbm ssp sph ssg sst swy sks snt sgv sse stk skk ssk spl sld, hbC qH cI cS u1.2.2.2.2.2.2.2.2.2.1 u1.2.2.2.2.2.2.2.2.2.2.1 u1.2.2.2.2.2.2.2.2.2.2.2.1, txC qx cI ad codes len due let_ clk bak num, mdC q6 refusal sn size len at_ good runs did, rwC (q6 1) cI 129 now, rwC (q6 2) cI 129 trial, rwC (q6 3) cI 129 shot, rwC (q6 4) cI 774 book, rwC (q6 5) cI 8 rp, rwC (q6 6) cI 8 gr, rwC (q6 7) cI 60 tx, lrC ao cL u1.2.2.2.2.2.2.2.2.2.2.2.2]) rfl (fun H locs hP hD hS => ?_)
    refine lv_istore (lv' := [(5, .int u1.1), (4, .int (nI i)), (3, .ref ao), (2, .ref (q6 0)), (1, .ref (q 0)), (0, .ref b)]) hx hb dL_law_167 hl (by decide) rfl (fun ls hl => ?_)
    refine lv_aload_n hx hb dL_law_169 rfl (lv_at hl 3 rfl) ?_
    refine ld_arg h0 hS (lv_sub hl [1, 5] rfl) 1 (by omega) e1 rfl dL_law_170 dL_law_171 dL_law_173 dL_law_174 dL_law_175 ?_
    have C2 := k_X6_pass l G cI cS cL q6 refusal sn size len at_ good runs did now book rp p1 hIB h6 (hrf0 hw)
    obtain ⟨u2, hu2⟩ : ∃ u, u = (f_X6_pass size now book rp p1) := ⟨_, rfl⟩
    rw [← hu2] at C2
    refine ct_callV (As := [.int p1]) (rest := []) X hP hD hS hA C2 cpw_X6_pass aw_921 ⟨Nat.le_of_ble_eq_true rfl, Nat.le_of_ble_eq_true rfl⟩ [6, 7, 10, 11] (cs := [mdC q6 refusal sn size len at_ good runs did, rwC (q6 1) cI 129 now, rwC (q6 4) cI 774 book, rwC (q6 5) cI 8 rp]) rfl (by decide) (cs' := [mdC q6 u2.2.1 sn u2.2.2.1 len at_ good runs did, rwC (q6 1) cI 129 u2.2.2.2.1, rwC (q6 4) cI 774 u2.2.2.2.2.1, rwC (q6 5) cI 8 u2.2.2.2.2.2]) rfl rfl 4 rfl rfl (q0 := 0) rfl rfl hl.1 rfl (Nat.le_of_ble_eq_true rfl) dL_law_176 hf0 rfl (bs' := [tcC q qn qt qs qH qx sn, stC qn cI bm sp u1.2.1 u1.2.2.1 u1.2.2.2.1 u1.2.2.2.2.1 ks u1.2.2.2.2.2.1 gv se u1.2.2.2.2.2.2.1 kk u1.2.2.2.2.2.2.2.1 u1.2.2.2.2.2.2.2.2.1 ld, stC qt cI tbm tsp tph tsg tst twy tks tnt tgv tse ttk tkk tsk tpl tld, stC qs cI sbm ssp sph ssg sst swy sks snt sgv sse stk skk ssk spl sld, hbC qH cI cS u1.2.2.2.2.2.2.2.2.2.1 u1.2.2.2.2.2.2.2.2.2.2.1 u1.2.2.2.2.2.2.2.2.2.2.2.1, txC qx cI ad codes len due let_ clk bak num, mdC q6 u2.2.1 sn u2.2.2.1 len at_ good runs did, rwC (q6 1) cI 129 u2.2.2.2.1, rwC (q6 2) cI 129 trial, rwC (q6 3) cI 129 shot, rwC (q6 4) cI 774 u2.2.2.2.2.1, rwC (q6 5) cI 8 u2.2.2.2.2.2, rwC (q6 6) cI 8 gr, rwC (q6 7) cI 60 tx, lrC ao cL u1.2.2.2.2.2.2.2.2.2.2.2.2]) rfl (fun H locs hP hD hS => ?_)
    sorry
  ·
    have hw : (bI (if (f_X6_in p1.toInt64 (1 : Int64) (200 : Int64)) = true then false else true)) = 1 := by
      rw [ticks_in, if_neg c1]
      rfl
    refine lv_aload_n hx hb dL_law_156 rfl (lv_at hl 3 rfl) ?_
    refine ld_arg h0 hS (lv_sub hl [0, 4] rfl) 1 (by omega) e1 rfl dL_law_157 dL_law_158 dL_law_160 dL_law_161 dL_law_162 ?_
    refine lv_aload_n hx hb dL_law_163 rfl (lv_at hl 1 rfl) ?_
    have C1 := k_L_pass_T7 l hlt G cI cS cL ad mp q qn qt qs qH qx ao sn bm sp ph sg st wy ks nt gv se tk kk sk pl ld size qa cc out p1 c1
    obtain ⟨u1, hu1⟩ : ∃ u, u = f_L_pass_T7 := ⟨_, rfl⟩
    rw [← hu1] at C1
    refine cl_callS (As := [.ref (q 0), .int p1, .ref ao]) (rest := []) hE hC X hP hD hS hA C1 cpL_pass aw_531 ⟨Nat.le_of_ble_eq_true rfl, Nat.le_of_ble_eq_true rfl⟩ [0, 1, 4, 14] (cs := [tcC q qn qt qs qH qx sn, stC qn cI bm sp ph sg st wy ks nt gv se tk kk sk pl ld, hbC qH cI cS size qa cc, lrC ao cL out]) rfl (by decide) (cs' := [tcC q qn qt qs qH qx sn, stC qn cI bm sp ph sg st wy ks nt gv se tk kk sk pl ld, hbC qH cI cS size qa cc, lrC ao cL out]) rfl rfl rfl hl.1 rfl (Nat.le_of_ble_eq_true rfl) dL_law_164 hf rfl (bs' := [tcC q qn qt qs qH qx sn, stC qn cI bm sp ph sg st wy ks nt gv se tk kk sk pl ld, stC qt cI tbm tsp tph tsg tst twy tks tnt tgv tse ttk tkk tsk tpl tld, stC qs cI sbm ssp sph ssg sst swy sks snt sgv sse stk skk ssk spl sld, hbC qH cI cS size qa cc, txC qx cI ad codes len due let_ clk bak num, mdC q6 refusal sn size len at_ good runs did, rwC (q6 1) cI 129 now, rwC (q6 2) cI 129 trial, rwC (q6 3) cI 129 shot, rwC (q6 4) cI 774 book, rwC (q6 5) cI 8 rp, rwC (q6 6) cI 8 gr, rwC (q6 7) cI 60 tx, lrC ao cL out]) rfl (fun H locs hP hD hS => ?_)
    refine lv_istore (lv' := [(5, .int u1), (4, .int (nI i)), (3, .ref ao), (2, .ref (q6 0)), (1, .ref (q 0)), (0, .ref b)]) hx hb dL_law_167 hl (by decide) rfl (fun ls hl => ?_)
    refine lv_aload_n hx hb dL_law_169 rfl (lv_at hl 3 rfl) ?_
    refine ld_arg h0 hS (lv_sub hl [1, 5] rfl) 1 (by omega) e1 rfl dL_law_170 dL_law_171 dL_law_173 dL_law_174 dL_law_175 ?_
    have C2 := k_X6_pass_R l G cI cS cL q6 refusal sn size len at_ good runs did now book rp p1 (hrf1 hw)
    obtain ⟨u2, hu2⟩ : ∃ u, u = (f_X6_pass_R p1) := ⟨_, rfl⟩
    rw [← hu2] at C2
    refine ct_callV (As := [.int p1]) (rest := []) X hP hD hS hA C2 cpw_X6_pass aw_921 ⟨Nat.le_of_ble_eq_true rfl, Nat.le_of_ble_eq_true rfl⟩ [6, 7, 10, 11] (cs := [mdC q6 refusal sn size len at_ good runs did, rwC (q6 1) cI 129 now, rwC (q6 4) cI 774 book, rwC (q6 5) cI 8 rp]) rfl (by decide) (cs' := [mdC q6 u2.2 sn size len at_ good runs did, rwC (q6 1) cI 129 now, rwC (q6 4) cI 774 book, rwC (q6 5) cI 8 rp]) rfl rfl 4 rfl rfl (q0 := 0) rfl rfl hl.1 rfl (Nat.le_of_ble_eq_true rfl) dL_law_176 hf rfl (bs' := [tcC q qn qt qs qH qx sn, stC qn cI bm sp ph sg st wy ks nt gv se tk kk sk pl ld, stC qt cI tbm tsp tph tsg tst twy tks tnt tgv tse ttk tkk tsk tpl tld, stC qs cI sbm ssp sph ssg sst swy sks snt sgv sse stk skk ssk spl sld, hbC qH cI cS size qa cc, txC qx cI ad codes len due let_ clk bak num, mdC q6 u2.2 sn size len at_ good runs did, rwC (q6 1) cI 129 now, rwC (q6 2) cI 129 trial, rwC (q6 3) cI 129 shot, rwC (q6 4) cI 774 book, rwC (q6 5) cI 8 rp, rwC (q6 6) cI 8 gr, rwC (q6 7) cI 60 tx, lrC ao cL out]) rfl (fun H locs hP hD hS => ?_)
    sorry
end OPS
