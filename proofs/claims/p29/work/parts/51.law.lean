set_option maxRecDepth 100000 in
set_option maxHeartbeats 8000000 in
/-- the law, two new clocks in its hands -/
theorem law_body {p : Program} {l : Launch} {e : Env} {R : Room} {s : State} {m : MethodId} {args : Array Value} {below : List Frame} {meth : Method} {c : Code} {H : Heap} {locs : List Loc} {c0 s0 : Nat} {Q : State → Prop} {G : va_G} {cI cS cL : ClassId} {ad : Nat → Nat} {mp b L : Nat} {xs : Nat → Int32} {ls : Array Slot} {A0 : Nat → Prop} {q qn qt qs qH qx r rn rt rs rH rx : Nat → Nat} {o o2 : Ob} {A : Ab} (hlt : l.stackTraces = false) (hE : SF ad mp A0 s s.heap) (hC : NC s) (X : Cx p s m args c cL_law 7 RL G (tyl cI cS cL)) (hA : ∀ q, s.heap.size ≤ q → A0 q) (hX : va_X b L xs s s.heap) (hbl : b < s.heap.size) (hbA : ¬ A0 b) (hL : L ≤ 2048) (hRf : 12 ≤ R.frames) (hRl : 300 ≤ R.locals) (hRc : c0 + 282 ≤ R.cells) (hRs : s0 + 1692 ≤ R.slots)
  (Kx : ∀ (ls : Array Slot) (H : Heap) (locs : List Loc) (cells slots : Nat), cells ≤ c0 + 282 → slots ≤ s0 + 1692 → va_S A0 s.heap H locs → W p l e R s m args below meth c H locs cells slots Q (F0 m 241 ls [.int 1]))
  (hab : aob o = A) (hg : Gd o) (hab2 : aob o2 = A) (hg2 : Gd o2) (hI : IA 0 A) (hP : va_P G classes [obC q qn qt qs qH qx cI cS ad o, obC r rn rt rs rH rx cI cS ad o2].flatten H) (hD : va_D A0 [obC q qn qt qs qH qx cI cS ad o, obC r rn rt rs rH rx cI cS ad o2].flatten) (hS : va_S A0 s.heap H locs) (hl : lv_has ls 7 [(2, .ref (r 0)), (1, .ref (q 0)), (0, .ref b)]) : W p l e R s m args below meth c H locs c0 s0 Q (F0 m 16 ls []) := by
  have hx := X.1
  have hb := X.2.1
  have hown := X.2.2.2.1
  have hw := X.2.2.2.2.1
  have lp : ∀ (n k : Nat), k + n = 36 → ∀ (A : Ab) (hI : IA (5940 * k) A) (o : Ob) (hab : aob o = A) (hg : Gd o) (o2 : Ob) (hab2 : aob o2 = A) (hg2 : Gd o2) (H : Heap) (locs : List Loc) (ls : Array Slot), va_P G classes [obC q qn qt qs qH qx cI cS ad o, obC r rn rt rs rH rx cI cS ad o2].flatten H → va_D A0 [obC q qn qt qs qH qx cI cS ad o, obC r rn rt rs rH rx cI cS ad o2].flatten → va_S A0 s.heap H locs → lv_has ls 7 [(4, .int (nI k)), (3, .int (1 : Int32)), (2, .ref (r 0)), (1, .ref (q 0)), (0, .ref b)] → W p l e R s m args below meth c H locs (c0 + 30 + 2 * k + 30 * ((k + 2) / 6)) (s0 + 180 + 12 * k + 180 * ((k + 2) / 6)) Q (F0 m 52 ls []) := by
    intro n
    induction n with
    | zero =>
      intro k hk A hI o hab hg o2 hab2 hg2 H locs ls hP hD hS hl
      obtain rfl : k = 36 := by omega
      refine W.widen (k := c0 + 282) (n := s0 + 1692) (by omega) (by omega) ?_
      refine lv_iload hx hb dL_law_52 (lv_at hl 0 rfl) ?_
      refine lv_bipush (v := 36) hx hb dL_law_54 (by decide) ?_
      refine nv_ge hx hb 36 36 221 (by omega) (by omega) dL_law_56 (by decide) (fun _ => ?_) (fun c => absurd (Nat.le_refl _) c)
      refine lv_iload_n hx hb dL_law_221 rfl (lv_at hl 1 rfl) ?_
      refine lv_if_eq (tgt := 240) hx hb dL_law_222 (by decide) (fun c => absurd c (by decide)) (fun _ => ?_)
      refine lv_aload_n hx hb dL_law_225 rfl (lv_at hl 3 rfl) ?_
      refine lv_aload_n hx hb dL_law_226 rfl (lv_at hl 2 rfl) ?_
      refine lv_sipush (v := 10837) hx hb dL_law_227 (by decide) ?_
      have hc := o_alike l G cI cS cL ad mp q qn qt qs qH qx r rn rt rs rH rx (o := o) (o2 := o2) hg hg2 (bb := (5940 * 36)) (hI := by rw [hab]; exact hI) (he := by rw [hab, hab2]) 10837 (by first | exact drN_lt _ _ _ | omega)
      rw [hab] at hc
      refine co_callS (As := [.ref (q 0), .ref (r 0), .int (10837 : Int32)]) (rest := []) hE hC X hP hD hS hA hc cpS_alike aw_758 ⟨by omega, by omega⟩ [0, 1] (cs := [obC q qn qt qs qH qx cI cS ad o, obC r rn rt rs rH rx cI cS ad o2]) rfl (by decide) (fun (u : Ob × Ob) => [obC q qn qt qs qH qx cI cS ad u.1, obC r rn rt rs rH rx cI cS ad u.2]) (fun _ => rfl) (fun _ => rfl) rfl hl.1 rfl (Nat.le_of_ble_eq_true rfl) dL_law_230 ⟨by omega, by omega⟩ (st1 := fun _ => [.int (1 : Int32)]) (fun _ => rfl) (fun (u : Ob × Ob) => [obC q qn qt qs qH qx cI cS ad u.1, obC r rn rt rs rH rx cI cS ad u.2]) (fun _ => rfl) (fun oo ho H locs hP hD hS => ?_)
      obtain ⟨o, o2⟩ := oo
      obtain ⟨⟨hab, hg⟩, hab2, hg2⟩ := ho
      refine lv_if_eq (tgt := 240) hx hb dL_law_233 (by decide) (fun c => absurd c (by decide)) (fun _ => ?_)
      refine lv_iconst (v := 1) hx hb dL_law_236 (by decide) ?_
      refine lv_goto (tgt := 241) hx hb dL_law_237 (by decide) ?_
      exact Kx ls H locs _ _ (by omega) (by omega) hS
    | succ n ih =>
      intro k hk A hI o hab hg o2 hab2 hg2 H locs ls hP hD hS hl
      have hk36 : k < 36 := by omega
      refine lv_iload hx hb dL_law_52 (lv_at hl 0 rfl) ?_
      refine lv_bipush (v := 36) hx hb dL_law_54 (by decide) ?_
      refine nv_ge hx hb k 36 221 (by omega) (by omega) dL_law_56 (by decide) (fun c => absurd c (by omega)) (fun _ => ?_)
      refine lv_iload_n hx hb dL_law_59 rfl (lv_at hl 1 rfl) ?_
      refine lv_if_eq (tgt := 221) hx hb dL_law_60 (by decide) (fun c => absurd c (by decide)) (fun _ => ?_)
      refine lv_aload_n hx hb dL_law_63 rfl (lv_at hl 4 rfl) ?_
      refine lv_iconst (v := 2) hx hb dL_law_64 (by decide) ?_
      refine lv_iload hx hb dL_law_65 (lv_at hl 0 rfl) ?_
      refine nv_imul hx hb 2 k dL_law_67 ?_
      refine dr_call X hP hD hS hA hX hbl hbA hL (2 * k) (by omega) cpS_draw aw_191 ⟨by omega, by omega⟩ hl.1 (Nat.le_of_ble_eq_true rfl) dL_law_68 ⟨by omega, by omega⟩ (fun H locs hP hD hS => ?_)
      refine lv_istore (lv' := [(5, .int (nI ((drN L xs (2 * k))))), (4, .int (nI k)), (3, .int (1 : Int32)), (2, .ref (r 0)), (1, .ref (q 0)), (0, .ref b)]) hx hb dL_law_71 hl (by decide) rfl (fun ls hl => ?_)
      refine lv_aload_n hx hb dL_law_73 rfl (lv_at hl 5 rfl) ?_
      refine lv_iconst (v := 2) hx hb dL_law_74 (by decide) ?_
      refine lv_iload hx hb dL_law_75 (lv_at hl 1 rfl) ?_
      refine nv_imul hx hb 2 k dL_law_77 ?_
      refine lv_iconst (v := 1) hx hb dL_law_78 (by decide) ?_
      refine nv_iadd hx hb (2 * k) 1 dL_law_79 ?_
      refine dr_call X hP hD hS hA hX hbl hbA hL ((2 * k) + 1) (by omega) cpS_draw aw_191 ⟨by omega, by omega⟩ hl.1 (Nat.le_of_ble_eq_true rfl) dL_law_80 ⟨by omega, by omega⟩ (fun H locs hP hD hS => ?_)
      refine lv_istore (lv' := [(6, .int (nI ((drN L xs ((2 * k) + 1))))), (5, .int (nI ((drN L xs (2 * k))))), (4, .int (nI k)), (3, .int (1 : Int32)), (2, .ref (r 0)), (1, .ref (q 0)), (0, .ref b)]) hx hb dL_law_83 hl (by decide) rfl (fun ls hl => ?_)
      refine lv_aload_n hx hb dL_law_85 rfl (lv_at hl 5 rfl) ?_
      refine lv_iload hx hb dL_law_86 (lv_at hl 1 rfl) ?_
      refine lv_iload hx hb dL_law_88 (lv_at hl 0 rfl) ?_
      have hc := o_act l hlt G cI cS cL ad mp q qn qt qs qH qx (o := o) hg (bb := (5940 * k)) (hI := by rw [hab]; exact hI) (drN L xs (2 * k)) (drN L xs ((2 * k) + 1)) (drN_lt _ _ _) (drN_lt _ _ _)
      rw [hab] at hc
      refine co_callS (As := [.ref (q 0), .int (nI ((drN L xs (2 * k)))), .int (nI ((drN L xs ((2 * k) + 1))))]) (rest := []) hE hC X hP hD hS hA hc cpS_act aw_828 ⟨by omega, by omega⟩ [0] (cs := [obC q qn qt qs qH qx cI cS ad o]) rfl (by decide) (fun u => [obC q qn qt qs qH qx cI cS ad u]) (fun _ => rfl) (fun _ => rfl) rfl hl.1 rfl (Nat.le_of_ble_eq_true rfl) dL_law_90 ⟨by omega, by omega⟩ (st1 := fun _ => [.long ((actA A (drN L xs (2 * k)) (drN L xs ((2 * k) + 1))).1)]) (fun _ => rfl) (fun u => [obC q qn qt qs qH qx cI cS ad u, obC r rn rt rs rH rx cI cS ad o2]) (fun _ => rfl) (fun o ho H locs hP hD hS => ?_)
      obtain ⟨hab, hg⟩ := ho
      refine lv_aload_n hx hb dL_law_93 rfl (lv_at hl 4 rfl) ?_
      refine lv_iload hx hb dL_law_94 (lv_at hl 1 rfl) ?_
      refine lv_iload hx hb dL_law_96 (lv_at hl 0 rfl) ?_
      have hc := o_act l hlt G cI cS cL ad mp r rn rt rs rH rx (o := o2) hg2 (bb := (5940 * k)) (hI := by rw [hab2]; exact hI) (drN L xs (2 * k)) (drN L xs ((2 * k) + 1)) (drN_lt _ _ _) (drN_lt _ _ _)
      rw [hab2] at hc
      refine co_callS (As := [.ref (r 0), .int (nI ((drN L xs (2 * k)))), .int (nI ((drN L xs ((2 * k) + 1))))]) (rest := [.long ((actA A (drN L xs (2 * k)) (drN L xs ((2 * k) + 1))).1)]) hE hC X hP hD hS hA hc cpS_act aw_828 ⟨by omega, by omega⟩ [1] (cs := [obC r rn rt rs rH rx cI cS ad o2]) rfl (by decide) (fun u => [obC r rn rt rs rH rx cI cS ad u]) (fun _ => rfl) (fun _ => rfl) rfl hl.1 rfl (Nat.le_of_ble_eq_true rfl) dL_law_98 ⟨by omega, by omega⟩ (st1 := fun _ => [.long ((actA A (drN L xs (2 * k)) (drN L xs ((2 * k) + 1))).1), .long ((actA A (drN L xs (2 * k)) (drN L xs ((2 * k) + 1))).1)]) (fun _ => rfl) (fun u => [obC q qn qt qs qH qx cI cS ad o, obC r rn rt rs rH rx cI cS ad u]) (fun _ => rfl) (fun o2 ho H locs hP hD hS => ?_)
      obtain ⟨hab2, hg2⟩ := ho
      refine W.lcmp hx hb dL_law_101 ?_
      refine iv_ifne hx hb 109 dL_law_102 (by decide) (fun c => absurd (lg_self _) c) (fun _ => ?_)
      refine lv_iconst (v := 1) hx hb dL_law_105 (by decide) ?_
      refine lv_goto (tgt := 110) hx hb dL_law_106 (by decide) ?_
      refine lv_istore_n (lv' := [(3, .int (1 : Int32)), (6, .int (nI ((drN L xs ((2 * k) + 1))))), (5, .int (nI ((drN L xs (2 * k))))), (4, .int (nI k)), (2, .ref (r 0)), (1, .ref (q 0)), (0, .ref b)]) hx hb dL_law_110 rfl hl (by decide) rfl (fun ls hl => ?_)
      have hI := IA_act (by omega) hI (drN L xs (2 * k)) (drN L xs ((2 * k) + 1))
      obtain ⟨A, eB⟩ : ∃ X : Ab, (actA A (drN L xs (2 * k)) (drN L xs ((2 * k) + 1))).2 = X := ⟨_, rfl⟩
      rw [eB] at hab hab2 hI
      refine lv_iload hx hb dL_law_111 (lv_at hl 3 rfl) ?_
      refine lv_bipush (v := 6) hx hb dL_law_113 (by decide) ?_
      refine nv_irem hx hb k 6 (by omega) (by omega) (by omega) dL_law_115 ?_
      refine lv_iconst (v := 3) hx hb dL_law_116 (by decide) ?_
      refine nv_ne hx hb (k % 6) 3 144 (by omega) (by omega) dL_law_117 (by decide) (fun c6 => ?_) (fun c6 => ?_)
      · refine lv_iload hx hb dL_law_144 (lv_at hl 3 rfl) ?_
        refine lv_bipush (v := 12) hx hb dL_law_146 (by decide) ?_
        refine nv_irem hx hb k 12 (by omega) (by omega) (by omega) dL_law_148 ?_
        refine lv_bipush (v := 11) hx hb dL_law_149 (by decide) ?_
        refine nv_ne hx hb (k % 12) 11 187 (by omega) (by omega) dL_law_151 (by decide) (fun c12 => ?_) (fun c12 => ?_)
        · refine lv_iload_n hx hb dL_law_187 rfl (lv_at hl 0 rfl) ?_
          refine lv_if_eq (tgt := 213) hx hb dL_law_188 (by decide) (fun c => absurd c (by decide)) (fun _ => ?_)
          refine lv_iload hx hb dL_law_191 (lv_at hl 3 rfl) ?_
          refine lv_bipush (v := 9) hx hb dL_law_193 (by decide) ?_
          refine nv_irem hx hb k 9 (by omega) (by omega) (by omega) dL_law_195 ?_
          refine lv_if_gt (tgt := 209) hx hb dL_law_196 (by decide) (fun c9 => ?_) (fun c9 => ?_)
          · refine lv_iconst (v := 1) hx hb dL_law_209 (by decide) ?_
            refine lv_goto (tgt := 214) hx hb dL_law_210 (by decide) ?_
            refine lv_istore_n (lv' := [(3, .int (1 : Int32)), (6, .int (nI ((drN L xs ((2 * k) + 1))))), (5, .int (nI ((drN L xs (2 * k))))), (4, .int (nI k)), (2, .ref (r 0)), (1, .ref (q 0)), (0, .ref b)]) hx hb dL_law_214 rfl hl (by decide) rfl (fun ls hl => ?_)
            refine nv_iinc (k := 3) (lv' := [(4, .int (nI ((k + 1)))), (3, .int (1 : Int32)), (6, .int (nI ((drN L xs ((2 * k) + 1))))), (5, .int (nI ((drN L xs (2 * k))))), (2, .ref (r 0)), (1, .ref (q 0)), (0, .ref b)]) hx hb k dL_law_215 hl rfl (by decide) rfl (fun ls hl => ?_)
            refine lv_goto (tgt := 52) hx hb dL_law_218 (by decide) ?_
            refine W.widen (k := c0 + 30 + 2 * (k + 1) + 30 * ((k + 1 + 2) / 6)) (n := s0 + 180 + 12 * (k + 1) + 180 * ((k + 1 + 2) / 6)) (by omega) (by omega) ?_
            exact ih (k + 1) (by omega) A (by rw [show 5940 * (k + 1) = 5940 * k + 5940 by omega]; exact hI) o hab hg o2 hab2 hg2 _ _ _ hP hD hS (lv_sub hl [0, 1, 4, 5, 6] rfl)
          · refine lv_aload_n hx hb dL_law_199 rfl (lv_at hl 5 rfl) ?_
            refine lv_aload_n hx hb dL_law_200 rfl (lv_at hl 4 rfl) ?_
            refine lv_iload hx hb dL_law_201 (lv_at hl 1 rfl) ?_
            have hc := o_alike l G cI cS cL ad mp q qn qt qs qH qx r rn rt rs rH rx (o := o) (o2 := o2) hg hg2 (bb := (5940 * k + 5940)) (hI := by rw [hab]; exact hI) (he := by rw [hab, hab2]) (drN L xs ((2 * k) + 1)) (by first | exact drN_lt _ _ _ | omega)
            rw [hab] at hc
            refine co_callS (As := [.ref (q 0), .ref (r 0), .int (nI ((drN L xs ((2 * k) + 1))))]) (rest := []) hE hC X hP hD hS hA hc cpS_alike aw_758 ⟨by omega, by omega⟩ [0, 1] (cs := [obC q qn qt qs qH qx cI cS ad o, obC r rn rt rs rH rx cI cS ad o2]) rfl (by decide) (fun (u : Ob × Ob) => [obC q qn qt qs qH qx cI cS ad u.1, obC r rn rt rs rH rx cI cS ad u.2]) (fun _ => rfl) (fun _ => rfl) rfl hl.1 rfl (Nat.le_of_ble_eq_true rfl) dL_law_203 ⟨by omega, by omega⟩ (st1 := fun _ => [.int (1 : Int32)]) (fun _ => rfl) (fun (u : Ob × Ob) => [obC q qn qt qs qH qx cI cS ad u.1, obC r rn rt rs rH rx cI cS ad u.2]) (fun _ => rfl) (fun oo ho H locs hP hD hS => ?_)
            obtain ⟨o, o2⟩ := oo
            obtain ⟨⟨hab, hg⟩, hab2, hg2⟩ := ho
            refine lv_if_eq (tgt := 213) hx hb dL_law_206 (by decide) (fun c => absurd c (by decide)) (fun _ => ?_)
            refine lv_iconst (v := 1) hx hb dL_law_209 (by decide) ?_
            refine lv_goto (tgt := 214) hx hb dL_law_210 (by decide) ?_
            refine lv_istore_n (lv' := [(3, .int (1 : Int32)), (6, .int (nI ((drN L xs ((2 * k) + 1))))), (5, .int (nI ((drN L xs (2 * k))))), (4, .int (nI k)), (2, .ref (r 0)), (1, .ref (q 0)), (0, .ref b)]) hx hb dL_law_214 rfl hl (by decide) rfl (fun ls hl => ?_)
            refine nv_iinc (k := 3) (lv' := [(4, .int (nI ((k + 1)))), (3, .int (1 : Int32)), (6, .int (nI ((drN L xs ((2 * k) + 1))))), (5, .int (nI ((drN L xs (2 * k))))), (2, .ref (r 0)), (1, .ref (q 0)), (0, .ref b)]) hx hb k dL_law_215 hl rfl (by decide) rfl (fun ls hl => ?_)
            refine lv_goto (tgt := 52) hx hb dL_law_218 (by decide) ?_
            refine W.widen (k := c0 + 30 + 2 * (k + 1) + 30 * ((k + 1 + 2) / 6)) (n := s0 + 180 + 12 * (k + 1) + 180 * ((k + 1 + 2) / 6)) (by omega) (by omega) ?_
            exact ih (k + 1) (by omega) A (by rw [show 5940 * (k + 1) = 5940 * k + 5940 by omega]; exact hI) o hab hg o2 hab2 hg2 _ _ _ hP hD hS (lv_sub hl [0, 1, 4, 5, 6] rfl)
        · refine lv_iload_n hx hb dL_law_154 rfl (lv_at hl 0 rfl) ?_
          refine lv_if_eq (tgt := 185) hx hb dL_law_155 (by decide) (fun c => absurd c (by decide)) (fun _ => ?_)
          refine lv_aload_n hx hb dL_law_158 rfl (lv_at hl 4 rfl) ?_
          refine lv_iload hx hb dL_law_159 (lv_at hl 1 rfl) ?_
          have hc := o_follows l G cI cS cL ad mp r rn rt rs rH rx (o := o2) hg2 (bb := (5940 * k + 5940)) (hbb := by omega) (hI := by rw [hab2]; exact hI) (drN L xs ((2 * k) + 1)) (drN_lt _ _ _)
          rw [hab2] at hc
          refine co_callS (As := [.ref (r 0), .int (nI ((drN L xs ((2 * k) + 1))))]) (rest := []) hE hC X hP hD hS hA hc cpS_follows aw_680 ⟨by omega, by omega⟩ [1] (cs := [obC r rn rt rs rH rx cI cS ad o2]) rfl (by decide) (fun u => [obC r rn rt rs rH rx cI cS ad u]) (fun _ => rfl) (fun _ => rfl) rfl hl.1 rfl (Nat.le_of_ble_eq_true rfl) dL_law_161 ⟨by omega, by omega⟩ (st1 := fun _ => [.int (1 : Int32)]) (fun _ => rfl) (fun u => [obC q qn qt qs qH qx cI cS ad o, obC r rn rt rs rH rx cI cS ad u]) (fun _ => rfl) (fun o2 ho H locs hP hD hS => ?_)
          obtain ⟨hab2, hg2⟩ := ho
          have hbk := hab2
          obtain ⟨B2, hab2⟩ : ∃ X : Ab, aob o2 = X := ⟨_, rfl⟩
          rw [hab2] at hbk
          refine lv_if_eq (tgt := 185) hx hb dL_law_164 (by decide) (fun c => absurd c (by decide)) (fun _ => ?_)
          refine lv_aload_n hx hb dL_law_167 rfl (lv_at hl 5 rfl) ?_
          have hc := o_wipes l G cI cS cL ad mp q qn qt qs qH qx (o := o) hg (bb := (5940 * k + 5940)) (hI := by rw [hab]; exact hI)
          rw [hab] at hc
          refine co_callS (As := [.ref (q 0)]) (rest := []) hE hC X hP hD hS hA hc cpS_wipes aw_880 ⟨by omega, by omega⟩ [0] (cs := [obC q qn qt qs qH qx cI cS ad o]) rfl (by decide) (fun u => [obC q qn qt qs qH qx cI cS ad u]) (fun _ => rfl) (fun _ => rfl) rfl hl.1 rfl (Nat.le_of_ble_eq_true rfl) dL_law_168 ⟨by omega, by omega⟩ (st1 := fun _ => [.int (1 : Int32)]) (fun _ => rfl) (fun u => [obC q qn qt qs qH qx cI cS ad u, obC r rn rt rs rH rx cI cS ad o2]) (fun _ => rfl) (fun o ho H locs hP hD hS => ?_)
          obtain ⟨hab, hg⟩ := ho
          refine lv_if_eq (tgt := 185) hx hb dL_law_171 (by decide) (fun c => absurd c (by decide)) (fun _ => ?_)
          refine lv_aload_n hx hb dL_law_174 rfl (lv_at hl 4 rfl) ?_
          have hc := o_wipes l G cI cS cL ad mp r rn rt rs rH rx (o := o2) hg2 (bb := (5940 * k + 5940)) (hI := by rw [hab2]; exact hbk.2.2.2)
          rw [hab2] at hc
          refine co_callS (As := [.ref (r 0)]) (rest := []) hE hC X hP hD hS hA hc cpS_wipes aw_880 ⟨by omega, by omega⟩ [1] (cs := [obC r rn rt rs rH rx cI cS ad o2]) rfl (by decide) (fun u => [obC r rn rt rs rH rx cI cS ad u]) (fun _ => rfl) (fun _ => rfl) rfl hl.1 rfl (Nat.le_of_ble_eq_true rfl) dL_law_175 ⟨by omega, by omega⟩ (st1 := fun _ => [.int (1 : Int32)]) (fun _ => rfl) (fun u => [obC q qn qt qs qH qx cI cS ad o, obC r rn rt rs rH rx cI cS ad u]) (fun _ => rfl) (fun o2 ho H locs hP hD hS => ?_)
          obtain ⟨hab2, hg2⟩ := ho
          rw [wp_eq hbk.1 hbk.2.1 hbk.2.2.1 hbk.2.2.2.2.2.2.1 hI.2.2.2.1] at hab2
          have hI := wpA_IA hI 6 (by decide)
          obtain ⟨A, eC⟩ : ∃ X : Ab, wpA A 6 = X := ⟨_, rfl⟩
          rw [eC] at hab hab2 hI
          refine lv_if_eq (tgt := 185) hx hb dL_law_178 (by decide) (fun c => absurd c (by decide)) (fun _ => ?_)
          refine lv_iconst (v := 1) hx hb dL_law_181 (by decide) ?_
          refine lv_goto (tgt := 186) hx hb dL_law_182 (by decide) ?_
          refine lv_istore_n (lv' := [(3, .int (1 : Int32)), (6, .int (nI ((drN L xs ((2 * k) + 1))))), (5, .int (nI ((drN L xs (2 * k))))), (4, .int (nI k)), (2, .ref (r 0)), (1, .ref (q 0)), (0, .ref b)]) hx hb dL_law_186 rfl hl (by decide) rfl (fun ls hl => ?_)
          refine lv_iload_n hx hb dL_law_187 rfl (lv_at hl 0 rfl) ?_
          refine lv_if_eq (tgt := 213) hx hb dL_law_188 (by decide) (fun c => absurd c (by decide)) (fun _ => ?_)
          refine lv_iload hx hb dL_law_191 (lv_at hl 3 rfl) ?_
          refine lv_bipush (v := 9) hx hb dL_law_193 (by decide) ?_
          refine nv_irem hx hb k 9 (by omega) (by omega) (by omega) dL_law_195 ?_
          refine lv_if_gt (tgt := 209) hx hb dL_law_196 (by decide) (fun c9 => ?_) (fun c9 => ?_)
          · refine lv_iconst (v := 1) hx hb dL_law_209 (by decide) ?_
            refine lv_goto (tgt := 214) hx hb dL_law_210 (by decide) ?_
            refine lv_istore_n (lv' := [(3, .int (1 : Int32)), (6, .int (nI ((drN L xs ((2 * k) + 1))))), (5, .int (nI ((drN L xs (2 * k))))), (4, .int (nI k)), (2, .ref (r 0)), (1, .ref (q 0)), (0, .ref b)]) hx hb dL_law_214 rfl hl (by decide) rfl (fun ls hl => ?_)
            refine nv_iinc (k := 3) (lv' := [(4, .int (nI ((k + 1)))), (3, .int (1 : Int32)), (6, .int (nI ((drN L xs ((2 * k) + 1))))), (5, .int (nI ((drN L xs (2 * k))))), (2, .ref (r 0)), (1, .ref (q 0)), (0, .ref b)]) hx hb k dL_law_215 hl rfl (by decide) rfl (fun ls hl => ?_)
            refine lv_goto (tgt := 52) hx hb dL_law_218 (by decide) ?_
            refine W.widen (k := c0 + 30 + 2 * (k + 1) + 30 * ((k + 1 + 2) / 6)) (n := s0 + 180 + 12 * (k + 1) + 180 * ((k + 1 + 2) / 6)) (by omega) (by omega) ?_
            exact ih (k + 1) (by omega) A (by rw [show 5940 * (k + 1) = 5940 * k + 5940 by omega]; exact hI) o hab hg o2 hab2 hg2 _ _ _ hP hD hS (lv_sub hl [0, 1, 4, 5, 6] rfl)
          · refine lv_aload_n hx hb dL_law_199 rfl (lv_at hl 5 rfl) ?_
            refine lv_aload_n hx hb dL_law_200 rfl (lv_at hl 4 rfl) ?_
            refine lv_iload hx hb dL_law_201 (lv_at hl 1 rfl) ?_
            have hc := o_alike l G cI cS cL ad mp q qn qt qs qH qx r rn rt rs rH rx (o := o) (o2 := o2) hg hg2 (bb := (5940 * k + 5940)) (hI := by rw [hab]; exact hI) (he := by rw [hab, hab2]) (drN L xs ((2 * k) + 1)) (by first | exact drN_lt _ _ _ | omega)
            rw [hab] at hc
            refine co_callS (As := [.ref (q 0), .ref (r 0), .int (nI ((drN L xs ((2 * k) + 1))))]) (rest := []) hE hC X hP hD hS hA hc cpS_alike aw_758 ⟨by omega, by omega⟩ [0, 1] (cs := [obC q qn qt qs qH qx cI cS ad o, obC r rn rt rs rH rx cI cS ad o2]) rfl (by decide) (fun (u : Ob × Ob) => [obC q qn qt qs qH qx cI cS ad u.1, obC r rn rt rs rH rx cI cS ad u.2]) (fun _ => rfl) (fun _ => rfl) rfl hl.1 rfl (Nat.le_of_ble_eq_true rfl) dL_law_203 ⟨by omega, by omega⟩ (st1 := fun _ => [.int (1 : Int32)]) (fun _ => rfl) (fun (u : Ob × Ob) => [obC q qn qt qs qH qx cI cS ad u.1, obC r rn rt rs rH rx cI cS ad u.2]) (fun _ => rfl) (fun oo ho H locs hP hD hS => ?_)
            obtain ⟨o, o2⟩ := oo
            obtain ⟨⟨hab, hg⟩, hab2, hg2⟩ := ho
            refine lv_if_eq (tgt := 213) hx hb dL_law_206 (by decide) (fun c => absurd c (by decide)) (fun _ => ?_)
            refine lv_iconst (v := 1) hx hb dL_law_209 (by decide) ?_
            refine lv_goto (tgt := 214) hx hb dL_law_210 (by decide) ?_
            refine lv_istore_n (lv' := [(3, .int (1 : Int32)), (6, .int (nI ((drN L xs ((2 * k) + 1))))), (5, .int (nI ((drN L xs (2 * k))))), (4, .int (nI k)), (2, .ref (r 0)), (1, .ref (q 0)), (0, .ref b)]) hx hb dL_law_214 rfl hl (by decide) rfl (fun ls hl => ?_)
            refine nv_iinc (k := 3) (lv' := [(4, .int (nI ((k + 1)))), (3, .int (1 : Int32)), (6, .int (nI ((drN L xs ((2 * k) + 1))))), (5, .int (nI ((drN L xs (2 * k))))), (2, .ref (r 0)), (1, .ref (q 0)), (0, .ref b)]) hx hb k dL_law_215 hl rfl (by decide) rfl (fun ls hl => ?_)
            refine lv_goto (tgt := 52) hx hb dL_law_218 (by decide) ?_
            refine W.widen (k := c0 + 30 + 2 * (k + 1) + 30 * ((k + 1 + 2) / 6)) (n := s0 + 180 + 12 * (k + 1) + 180 * ((k + 1 + 2) / 6)) (by omega) (by omega) ?_
            exact ih (k + 1) (by omega) A (by rw [show 5940 * (k + 1) = 5940 * k + 5940 by omega]; exact hI) o hab hg o2 hab2 hg2 _ _ _ hP hD hS (lv_sub hl [0, 1, 4, 5, 6] rfl)
      · refine lv_iload_n hx hb dL_law_120 rfl (lv_at hl 0 rfl) ?_
        refine lv_if_eq (tgt := 142) hx hb dL_law_121 (by decide) (fun c => absurd c (by decide)) (fun _ => ?_)
        refine lv_aload_n hx hb dL_law_124 rfl (lv_at hl 4 rfl) ?_
        have hc := o_errors l hlt G cI cS cL ad mp r rn rt rs rH rx (o := o2) hg2 (bb := (5940 * k + 5940)) (hI := by rw [hab2]; exact hI)
        rw [hab2] at hc
        refine co_callS (As := [.ref (r 0)]) (rest := []) hE hC X hP hD hS hA hc cpS_errors aw_196 ⟨by omega, by omega⟩ [1] (cs := [obC r rn rt rs rH rx cI cS ad o2]) rfl (by decide) (fun u => [obC r rn rt rs rH rx cI cS ad u]) (fun _ => rfl) (fun _ => rfl) rfl hl.1 rfl (Nat.le_of_ble_eq_true rfl) dL_law_125 ⟨by omega, by omega⟩ (st1 := fun _ => [.int (1 : Int32)]) (fun _ => rfl) (fun u => [obC q qn qt qs qH qx cI cS ad o, obC r rn rt rs rH rx cI cS ad u]) (fun _ => rfl) (fun o2 ho H locs hP hD hS => ?_)
        obtain ⟨hab2, hg2⟩ := ho
        refine lv_if_eq (tgt := 142) hx hb dL_law_128 (by decide) (fun c => absurd c (by decide)) (fun _ => ?_)
        refine lv_aload_n hx hb dL_law_131 rfl (lv_at hl 4 rfl) ?_
        have hc := o_kept l G cI cS cL ad mp r rn rt rs rH rx (o := o2) hg2 (bb := (5940 * k + 5940)) (hbb := by omega) (hI := by rw [hab2]; exact hI)
        rw [hab2] at hc
        refine co_callS (As := [.ref (r 0)]) (rest := []) hE hC X hP hD hS hA hc cpS_kept aw_663 ⟨by omega, by omega⟩ [1] (cs := [obC r rn rt rs rH rx cI cS ad o2]) rfl (by decide) (fun u => [obC r rn rt rs rH rx cI cS ad u]) (fun _ => rfl) (fun _ => rfl) rfl hl.1 rfl (Nat.le_of_ble_eq_true rfl) dL_law_132 ⟨by omega, by omega⟩ (st1 := fun _ => [.int (1 : Int32)]) (fun _ => rfl) (fun u => [obC q qn qt qs qH qx cI cS ad o, obC r rn rt rs rH rx cI cS ad u]) (fun _ => rfl) (fun o2 ho H locs hP hD hS => ?_)
        obtain ⟨hab2, hg2⟩ := ho
        refine lv_if_eq (tgt := 142) hx hb dL_law_135 (by decide) (fun c => absurd c (by decide)) (fun _ => ?_)
        refine lv_iconst (v := 1) hx hb dL_law_138 (by decide) ?_
        refine lv_goto (tgt := 143) hx hb dL_law_139 (by decide) ?_
        refine lv_istore_n (lv' := [(3, .int (1 : Int32)), (6, .int (nI ((drN L xs ((2 * k) + 1))))), (5, .int (nI ((drN L xs (2 * k))))), (4, .int (nI k)), (2, .ref (r 0)), (1, .ref (q 0)), (0, .ref b)]) hx hb dL_law_143 rfl hl (by decide) rfl (fun ls hl => ?_)
        refine lv_iload hx hb dL_law_144 (lv_at hl 3 rfl) ?_
        refine lv_bipush (v := 12) hx hb dL_law_146 (by decide) ?_
        refine nv_irem hx hb k 12 (by omega) (by omega) (by omega) dL_law_148 ?_
        refine lv_bipush (v := 11) hx hb dL_law_149 (by decide) ?_
        refine nv_ne hx hb (k % 12) 11 187 (by omega) (by omega) dL_law_151 (by decide) (fun c12 => ?_) (fun c12 => ?_)
        · refine lv_iload_n hx hb dL_law_187 rfl (lv_at hl 0 rfl) ?_
          refine lv_if_eq (tgt := 213) hx hb dL_law_188 (by decide) (fun c => absurd c (by decide)) (fun _ => ?_)
          refine lv_iload hx hb dL_law_191 (lv_at hl 3 rfl) ?_
          refine lv_bipush (v := 9) hx hb dL_law_193 (by decide) ?_
          refine nv_irem hx hb k 9 (by omega) (by omega) (by omega) dL_law_195 ?_
          refine lv_if_gt (tgt := 209) hx hb dL_law_196 (by decide) (fun c9 => ?_) (fun c9 => ?_)
          · refine lv_iconst (v := 1) hx hb dL_law_209 (by decide) ?_
            refine lv_goto (tgt := 214) hx hb dL_law_210 (by decide) ?_
            refine lv_istore_n (lv' := [(3, .int (1 : Int32)), (6, .int (nI ((drN L xs ((2 * k) + 1))))), (5, .int (nI ((drN L xs (2 * k))))), (4, .int (nI k)), (2, .ref (r 0)), (1, .ref (q 0)), (0, .ref b)]) hx hb dL_law_214 rfl hl (by decide) rfl (fun ls hl => ?_)
            refine nv_iinc (k := 3) (lv' := [(4, .int (nI ((k + 1)))), (3, .int (1 : Int32)), (6, .int (nI ((drN L xs ((2 * k) + 1))))), (5, .int (nI ((drN L xs (2 * k))))), (2, .ref (r 0)), (1, .ref (q 0)), (0, .ref b)]) hx hb k dL_law_215 hl rfl (by decide) rfl (fun ls hl => ?_)
            refine lv_goto (tgt := 52) hx hb dL_law_218 (by decide) ?_
            refine W.widen (k := c0 + 30 + 2 * (k + 1) + 30 * ((k + 1 + 2) / 6)) (n := s0 + 180 + 12 * (k + 1) + 180 * ((k + 1 + 2) / 6)) (by omega) (by omega) ?_
            exact ih (k + 1) (by omega) A (by rw [show 5940 * (k + 1) = 5940 * k + 5940 by omega]; exact hI) o hab hg o2 hab2 hg2 _ _ _ hP hD hS (lv_sub hl [0, 1, 4, 5, 6] rfl)
          · refine lv_aload_n hx hb dL_law_199 rfl (lv_at hl 5 rfl) ?_
            refine lv_aload_n hx hb dL_law_200 rfl (lv_at hl 4 rfl) ?_
            refine lv_iload hx hb dL_law_201 (lv_at hl 1 rfl) ?_
            have hc := o_alike l G cI cS cL ad mp q qn qt qs qH qx r rn rt rs rH rx (o := o) (o2 := o2) hg hg2 (bb := (5940 * k + 5940)) (hI := by rw [hab]; exact hI) (he := by rw [hab, hab2]) (drN L xs ((2 * k) + 1)) (by first | exact drN_lt _ _ _ | omega)
            rw [hab] at hc
            refine co_callS (As := [.ref (q 0), .ref (r 0), .int (nI ((drN L xs ((2 * k) + 1))))]) (rest := []) hE hC X hP hD hS hA hc cpS_alike aw_758 ⟨by omega, by omega⟩ [0, 1] (cs := [obC q qn qt qs qH qx cI cS ad o, obC r rn rt rs rH rx cI cS ad o2]) rfl (by decide) (fun (u : Ob × Ob) => [obC q qn qt qs qH qx cI cS ad u.1, obC r rn rt rs rH rx cI cS ad u.2]) (fun _ => rfl) (fun _ => rfl) rfl hl.1 rfl (Nat.le_of_ble_eq_true rfl) dL_law_203 ⟨by omega, by omega⟩ (st1 := fun _ => [.int (1 : Int32)]) (fun _ => rfl) (fun (u : Ob × Ob) => [obC q qn qt qs qH qx cI cS ad u.1, obC r rn rt rs rH rx cI cS ad u.2]) (fun _ => rfl) (fun oo ho H locs hP hD hS => ?_)
            obtain ⟨o, o2⟩ := oo
            obtain ⟨⟨hab, hg⟩, hab2, hg2⟩ := ho
            refine lv_if_eq (tgt := 213) hx hb dL_law_206 (by decide) (fun c => absurd c (by decide)) (fun _ => ?_)
            refine lv_iconst (v := 1) hx hb dL_law_209 (by decide) ?_
            refine lv_goto (tgt := 214) hx hb dL_law_210 (by decide) ?_
            refine lv_istore_n (lv' := [(3, .int (1 : Int32)), (6, .int (nI ((drN L xs ((2 * k) + 1))))), (5, .int (nI ((drN L xs (2 * k))))), (4, .int (nI k)), (2, .ref (r 0)), (1, .ref (q 0)), (0, .ref b)]) hx hb dL_law_214 rfl hl (by decide) rfl (fun ls hl => ?_)
            refine nv_iinc (k := 3) (lv' := [(4, .int (nI ((k + 1)))), (3, .int (1 : Int32)), (6, .int (nI ((drN L xs ((2 * k) + 1))))), (5, .int (nI ((drN L xs (2 * k))))), (2, .ref (r 0)), (1, .ref (q 0)), (0, .ref b)]) hx hb k dL_law_215 hl rfl (by decide) rfl (fun ls hl => ?_)
            refine lv_goto (tgt := 52) hx hb dL_law_218 (by decide) ?_
            refine W.widen (k := c0 + 30 + 2 * (k + 1) + 30 * ((k + 1 + 2) / 6)) (n := s0 + 180 + 12 * (k + 1) + 180 * ((k + 1 + 2) / 6)) (by omega) (by omega) ?_
            exact ih (k + 1) (by omega) A (by rw [show 5940 * (k + 1) = 5940 * k + 5940 by omega]; exact hI) o hab hg o2 hab2 hg2 _ _ _ hP hD hS (lv_sub hl [0, 1, 4, 5, 6] rfl)
        · refine lv_iload_n hx hb dL_law_154 rfl (lv_at hl 0 rfl) ?_
          refine lv_if_eq (tgt := 185) hx hb dL_law_155 (by decide) (fun c => absurd c (by decide)) (fun _ => ?_)
          refine lv_aload_n hx hb dL_law_158 rfl (lv_at hl 4 rfl) ?_
          refine lv_iload hx hb dL_law_159 (lv_at hl 1 rfl) ?_
          have hc := o_follows l G cI cS cL ad mp r rn rt rs rH rx (o := o2) hg2 (bb := (5940 * k + 5940)) (hbb := by omega) (hI := by rw [hab2]; exact hI) (drN L xs ((2 * k) + 1)) (drN_lt _ _ _)
          rw [hab2] at hc
          refine co_callS (As := [.ref (r 0), .int (nI ((drN L xs ((2 * k) + 1))))]) (rest := []) hE hC X hP hD hS hA hc cpS_follows aw_680 ⟨by omega, by omega⟩ [1] (cs := [obC r rn rt rs rH rx cI cS ad o2]) rfl (by decide) (fun u => [obC r rn rt rs rH rx cI cS ad u]) (fun _ => rfl) (fun _ => rfl) rfl hl.1 rfl (Nat.le_of_ble_eq_true rfl) dL_law_161 ⟨by omega, by omega⟩ (st1 := fun _ => [.int (1 : Int32)]) (fun _ => rfl) (fun u => [obC q qn qt qs qH qx cI cS ad o, obC r rn rt rs rH rx cI cS ad u]) (fun _ => rfl) (fun o2 ho H locs hP hD hS => ?_)
          obtain ⟨hab2, hg2⟩ := ho
          have hbk := hab2
          obtain ⟨B2, hab2⟩ : ∃ X : Ab, aob o2 = X := ⟨_, rfl⟩
          rw [hab2] at hbk
          refine lv_if_eq (tgt := 185) hx hb dL_law_164 (by decide) (fun c => absurd c (by decide)) (fun _ => ?_)
          refine lv_aload_n hx hb dL_law_167 rfl (lv_at hl 5 rfl) ?_
          have hc := o_wipes l G cI cS cL ad mp q qn qt qs qH qx (o := o) hg (bb := (5940 * k + 5940)) (hI := by rw [hab]; exact hI)
          rw [hab] at hc
          refine co_callS (As := [.ref (q 0)]) (rest := []) hE hC X hP hD hS hA hc cpS_wipes aw_880 ⟨by omega, by omega⟩ [0] (cs := [obC q qn qt qs qH qx cI cS ad o]) rfl (by decide) (fun u => [obC q qn qt qs qH qx cI cS ad u]) (fun _ => rfl) (fun _ => rfl) rfl hl.1 rfl (Nat.le_of_ble_eq_true rfl) dL_law_168 ⟨by omega, by omega⟩ (st1 := fun _ => [.int (1 : Int32)]) (fun _ => rfl) (fun u => [obC q qn qt qs qH qx cI cS ad u, obC r rn rt rs rH rx cI cS ad o2]) (fun _ => rfl) (fun o ho H locs hP hD hS => ?_)
          obtain ⟨hab, hg⟩ := ho
          refine lv_if_eq (tgt := 185) hx hb dL_law_171 (by decide) (fun c => absurd c (by decide)) (fun _ => ?_)
          refine lv_aload_n hx hb dL_law_174 rfl (lv_at hl 4 rfl) ?_
          have hc := o_wipes l G cI cS cL ad mp r rn rt rs rH rx (o := o2) hg2 (bb := (5940 * k + 5940)) (hI := by rw [hab2]; exact hbk.2.2.2)
          rw [hab2] at hc
          refine co_callS (As := [.ref (r 0)]) (rest := []) hE hC X hP hD hS hA hc cpS_wipes aw_880 ⟨by omega, by omega⟩ [1] (cs := [obC r rn rt rs rH rx cI cS ad o2]) rfl (by decide) (fun u => [obC r rn rt rs rH rx cI cS ad u]) (fun _ => rfl) (fun _ => rfl) rfl hl.1 rfl (Nat.le_of_ble_eq_true rfl) dL_law_175 ⟨by omega, by omega⟩ (st1 := fun _ => [.int (1 : Int32)]) (fun _ => rfl) (fun u => [obC q qn qt qs qH qx cI cS ad o, obC r rn rt rs rH rx cI cS ad u]) (fun _ => rfl) (fun o2 ho H locs hP hD hS => ?_)
          obtain ⟨hab2, hg2⟩ := ho
          rw [wp_eq hbk.1 hbk.2.1 hbk.2.2.1 hbk.2.2.2.2.2.2.1 hI.2.2.2.1] at hab2
          have hI := wpA_IA hI 6 (by decide)
          obtain ⟨A, eC⟩ : ∃ X : Ab, wpA A 6 = X := ⟨_, rfl⟩
          rw [eC] at hab hab2 hI
          refine lv_if_eq (tgt := 185) hx hb dL_law_178 (by decide) (fun c => absurd c (by decide)) (fun _ => ?_)
          refine lv_iconst (v := 1) hx hb dL_law_181 (by decide) ?_
          refine lv_goto (tgt := 186) hx hb dL_law_182 (by decide) ?_
          refine lv_istore_n (lv' := [(3, .int (1 : Int32)), (6, .int (nI ((drN L xs ((2 * k) + 1))))), (5, .int (nI ((drN L xs (2 * k))))), (4, .int (nI k)), (2, .ref (r 0)), (1, .ref (q 0)), (0, .ref b)]) hx hb dL_law_186 rfl hl (by decide) rfl (fun ls hl => ?_)
          refine lv_iload_n hx hb dL_law_187 rfl (lv_at hl 0 rfl) ?_
          refine lv_if_eq (tgt := 213) hx hb dL_law_188 (by decide) (fun c => absurd c (by decide)) (fun _ => ?_)
          refine lv_iload hx hb dL_law_191 (lv_at hl 3 rfl) ?_
          refine lv_bipush (v := 9) hx hb dL_law_193 (by decide) ?_
          refine nv_irem hx hb k 9 (by omega) (by omega) (by omega) dL_law_195 ?_
          refine lv_if_gt (tgt := 209) hx hb dL_law_196 (by decide) (fun c9 => ?_) (fun c9 => ?_)
          · refine lv_iconst (v := 1) hx hb dL_law_209 (by decide) ?_
            refine lv_goto (tgt := 214) hx hb dL_law_210 (by decide) ?_
            refine lv_istore_n (lv' := [(3, .int (1 : Int32)), (6, .int (nI ((drN L xs ((2 * k) + 1))))), (5, .int (nI ((drN L xs (2 * k))))), (4, .int (nI k)), (2, .ref (r 0)), (1, .ref (q 0)), (0, .ref b)]) hx hb dL_law_214 rfl hl (by decide) rfl (fun ls hl => ?_)
            refine nv_iinc (k := 3) (lv' := [(4, .int (nI ((k + 1)))), (3, .int (1 : Int32)), (6, .int (nI ((drN L xs ((2 * k) + 1))))), (5, .int (nI ((drN L xs (2 * k))))), (2, .ref (r 0)), (1, .ref (q 0)), (0, .ref b)]) hx hb k dL_law_215 hl rfl (by decide) rfl (fun ls hl => ?_)
            refine lv_goto (tgt := 52) hx hb dL_law_218 (by decide) ?_
            refine W.widen (k := c0 + 30 + 2 * (k + 1) + 30 * ((k + 1 + 2) / 6)) (n := s0 + 180 + 12 * (k + 1) + 180 * ((k + 1 + 2) / 6)) (by omega) (by omega) ?_
            exact ih (k + 1) (by omega) A (by rw [show 5940 * (k + 1) = 5940 * k + 5940 by omega]; exact hI) o hab hg o2 hab2 hg2 _ _ _ hP hD hS (lv_sub hl [0, 1, 4, 5, 6] rfl)
          · refine lv_aload_n hx hb dL_law_199 rfl (lv_at hl 5 rfl) ?_
            refine lv_aload_n hx hb dL_law_200 rfl (lv_at hl 4 rfl) ?_
            refine lv_iload hx hb dL_law_201 (lv_at hl 1 rfl) ?_
            have hc := o_alike l G cI cS cL ad mp q qn qt qs qH qx r rn rt rs rH rx (o := o) (o2 := o2) hg hg2 (bb := (5940 * k + 5940)) (hI := by rw [hab]; exact hI) (he := by rw [hab, hab2]) (drN L xs ((2 * k) + 1)) (by first | exact drN_lt _ _ _ | omega)
            rw [hab] at hc
            refine co_callS (As := [.ref (q 0), .ref (r 0), .int (nI ((drN L xs ((2 * k) + 1))))]) (rest := []) hE hC X hP hD hS hA hc cpS_alike aw_758 ⟨by omega, by omega⟩ [0, 1] (cs := [obC q qn qt qs qH qx cI cS ad o, obC r rn rt rs rH rx cI cS ad o2]) rfl (by decide) (fun (u : Ob × Ob) => [obC q qn qt qs qH qx cI cS ad u.1, obC r rn rt rs rH rx cI cS ad u.2]) (fun _ => rfl) (fun _ => rfl) rfl hl.1 rfl (Nat.le_of_ble_eq_true rfl) dL_law_203 ⟨by omega, by omega⟩ (st1 := fun _ => [.int (1 : Int32)]) (fun _ => rfl) (fun (u : Ob × Ob) => [obC q qn qt qs qH qx cI cS ad u.1, obC r rn rt rs rH rx cI cS ad u.2]) (fun _ => rfl) (fun oo ho H locs hP hD hS => ?_)
            obtain ⟨o, o2⟩ := oo
            obtain ⟨⟨hab, hg⟩, hab2, hg2⟩ := ho
            refine lv_if_eq (tgt := 213) hx hb dL_law_206 (by decide) (fun c => absurd c (by decide)) (fun _ => ?_)
            refine lv_iconst (v := 1) hx hb dL_law_209 (by decide) ?_
            refine lv_goto (tgt := 214) hx hb dL_law_210 (by decide) ?_
            refine lv_istore_n (lv' := [(3, .int (1 : Int32)), (6, .int (nI ((drN L xs ((2 * k) + 1))))), (5, .int (nI ((drN L xs (2 * k))))), (4, .int (nI k)), (2, .ref (r 0)), (1, .ref (q 0)), (0, .ref b)]) hx hb dL_law_214 rfl hl (by decide) rfl (fun ls hl => ?_)
            refine nv_iinc (k := 3) (lv' := [(4, .int (nI ((k + 1)))), (3, .int (1 : Int32)), (6, .int (nI ((drN L xs ((2 * k) + 1))))), (5, .int (nI ((drN L xs (2 * k))))), (2, .ref (r 0)), (1, .ref (q 0)), (0, .ref b)]) hx hb k dL_law_215 hl rfl (by decide) rfl (fun ls hl => ?_)
            refine lv_goto (tgt := 52) hx hb dL_law_218 (by decide) ?_
            refine W.widen (k := c0 + 30 + 2 * (k + 1) + 30 * ((k + 1 + 2) / 6)) (n := s0 + 180 + 12 * (k + 1) + 180 * ((k + 1 + 2) / 6)) (by omega) (by omega) ?_
            exact ih (k + 1) (by omega) A (by rw [show 5940 * (k + 1) = 5940 * k + 5940 by omega]; exact hI) o hab hg o2 hab2 hg2 _ _ _ hP hD hS (lv_sub hl [0, 1, 4, 5, 6] rfl)
  refine lv_aload_n hx hb dL_law_16 rfl (lv_at hl 1 rfl) ?_
  refine lv_aload_n hx hb dL_law_17 rfl (lv_at hl 0 rfl) ?_
  refine lv_aload_n hx hb dL_law_18 rfl (lv_at hl 2 rfl) ?_
  refine lv_iconst (v := 0) hx hb dL_law_19 (by decide) ?_
  refine dr_call X hP hD hS hA hX hbl hbA hL 0 (by omega) cpS_draw aw_191 ⟨by omega, by omega⟩ hl.1 (Nat.le_of_ble_eq_true rfl) dL_law_20 ⟨by omega, by omega⟩ (fun H locs hP hD hS => ?_)
  have hc := o_alike l G cI cS cL ad mp q qn qt qs qH qx r rn rt rs rH rx (o := o) (o2 := o2) hg hg2 (bb := 0) (hI := by rw [hab]; exact hI) (he := by rw [hab, hab2]) (drN L xs 0) (by first | exact drN_lt _ _ _ | omega)
  rw [hab] at hc
  refine co_callS (As := [.ref (q 0), .ref (r 0), .int (nI ((drN L xs 0)))]) (rest := []) hE hC X hP hD hS hA hc cpS_alike aw_758 ⟨by omega, by omega⟩ [0, 1] (cs := [obC q qn qt qs qH qx cI cS ad o, obC r rn rt rs rH rx cI cS ad o2]) rfl (by decide) (fun (u : Ob × Ob) => [obC q qn qt qs qH qx cI cS ad u.1, obC r rn rt rs rH rx cI cS ad u.2]) (fun _ => rfl) (fun _ => rfl) rfl hl.1 rfl (Nat.le_of_ble_eq_true rfl) dL_law_23 ⟨by omega, by omega⟩ (st1 := fun _ => [.int (1 : Int32)]) (fun _ => rfl) (fun (u : Ob × Ob) => [obC q qn qt qs qH qx cI cS ad u.1, obC r rn rt rs rH rx cI cS ad u.2]) (fun _ => rfl) (fun oo ho H locs hP hD hS => ?_)
  obtain ⟨o, o2⟩ := oo
  obtain ⟨⟨hab, hg⟩, hab2, hg2⟩ := ho
  refine lv_if_eq (tgt := 47) hx hb dL_law_26 (by decide) (fun c => absurd c (by decide)) (fun _ => ?_)
  refine lv_aload_n hx hb dL_law_29 rfl (lv_at hl 1 rfl) ?_
  have hc := o_errors l hlt G cI cS cL ad mp q qn qt qs qH qx (o := o) hg (bb := 0) (hI := by rw [hab]; exact hI)
  rw [hab] at hc
  refine co_callS (As := [.ref (q 0)]) (rest := []) hE hC X hP hD hS hA hc cpS_errors aw_196 ⟨by omega, by omega⟩ [0] (cs := [obC q qn qt qs qH qx cI cS ad o]) rfl (by decide) (fun u => [obC q qn qt qs qH qx cI cS ad u]) (fun _ => rfl) (fun _ => rfl) rfl hl.1 rfl (Nat.le_of_ble_eq_true rfl) dL_law_30 ⟨by omega, by omega⟩ (st1 := fun _ => [.int (1 : Int32)]) (fun _ => rfl) (fun u => [obC q qn qt qs qH qx cI cS ad u, obC r rn rt rs rH rx cI cS ad o2]) (fun _ => rfl) (fun o ho H locs hP hD hS => ?_)
  obtain ⟨hab, hg⟩ := ho
  refine lv_if_eq (tgt := 47) hx hb dL_law_33 (by decide) (fun c => absurd c (by decide)) (fun _ => ?_)
  refine lv_aload_n hx hb dL_law_36 rfl (lv_at hl 1 rfl) ?_
  have hc := o_kept l G cI cS cL ad mp q qn qt qs qH qx (o := o) hg (bb := 0) (hbb := by omega) (hI := by rw [hab]; exact hI)
  rw [hab] at hc
  refine co_callS (As := [.ref (q 0)]) (rest := []) hE hC X hP hD hS hA hc cpS_kept aw_663 ⟨by omega, by omega⟩ [0] (cs := [obC q qn qt qs qH qx cI cS ad o]) rfl (by decide) (fun u => [obC q qn qt qs qH qx cI cS ad u]) (fun _ => rfl) (fun _ => rfl) rfl hl.1 rfl (Nat.le_of_ble_eq_true rfl) dL_law_37 ⟨by omega, by omega⟩ (st1 := fun _ => [.int (1 : Int32)]) (fun _ => rfl) (fun u => [obC q qn qt qs qH qx cI cS ad u, obC r rn rt rs rH rx cI cS ad o2]) (fun _ => rfl) (fun o ho H locs hP hD hS => ?_)
  obtain ⟨hab, hg⟩ := ho
  refine lv_if_eq (tgt := 47) hx hb dL_law_40 (by decide) (fun c => absurd c (by decide)) (fun _ => ?_)
  refine lv_iconst (v := 1) hx hb dL_law_43 (by decide) ?_
  refine lv_goto (tgt := 48) hx hb dL_law_44 (by decide) ?_
  refine lv_istore_n (lv' := [(3, .int (1 : Int32)), (2, .ref (r 0)), (1, .ref (q 0)), (0, .ref b)]) hx hb dL_law_48 rfl hl (by decide) rfl (fun ls hl => ?_)
  refine lv_iconst (v := 0) hx hb dL_law_49 (by decide) ?_
  refine lv_istore (lv' := [(4, .int (0 : Int32)), (3, .int (1 : Int32)), (2, .ref (r 0)), (1, .ref (q 0)), (0, .ref b)]) hx hb dL_law_50 hl (by decide) rfl (fun ls hl => ?_)
  refine W.widen (k := c0 + 30 + 2 * 0 + 30 * ((0 + 2) / 6)) (n := s0 + 180 + 12 * 0 + 180 * ((0 + 2) / 6)) (by omega) (by omega) ?_
  exact lp 36 0 rfl A (by simpa using hI) o hab hg o2 hab2 hg2 _ _ _ hP hD hS (lv_sub hl [0, 1, 2, 3, 4] rfl)
