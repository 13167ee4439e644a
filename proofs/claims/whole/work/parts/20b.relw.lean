theorem near_126 {k o : Nat} (hk : k < 8) (ho : o < 8) (hne : k ≠ o) : f_X6_near k o < 126 := by
  unfold f_X6_near
  split <;> omega
theorem Rel.clk0 {bm sp ph sg st wy ks nt gv se : Nat → Int32} {tk kk sk : Int32} {pl ld : Nat → Int32} {row : Nat → Int32} (h : Rel (bm, sp, ph, sg, st, wy, ks, nt, gv, se, tk, kk, sk, pl, ld) row) {k : Nat} (hk : k < 8) (v : Int32) : Rel ((upd bm k v), sp, ph, sg, st, wy, ks, nt, gv, se, tk, kk, sk, pl, ld) (upd row ((6 + (7 * k)) + 0) v) := by
  obtain ⟨h1, h2, h3, h4, h5, h6, h7⟩ := h
  refine ⟨fun j hj => ?_, fun j hj o ho hne => ?_, fun b hb => ?_, fun i hi => ?_, ?_, ?_, ?_⟩
  · obtain ⟨a0, a1, a2, a3, a4, a5, a6⟩ := h1 j hj
    exact ⟨(by by_cases e : j = k; (subst e; exact pk_us.trans pk_us.symm); exact (pk_un (by omega)).trans (a0.trans (pk_un e).symm)), (pk_un (by omega)).trans a1, (pk_un (by omega)).trans a2, (pk_un (by omega)).trans a3, (pk_un (by omega)).trans a4, (pk_un (by omega)).trans a5, (pk_un (by omega)).trans a6⟩
  · have g1 := near_ge j o
    have g2 := near_126 hj ho hne
    exact (pk_un (by omega)).trans (h2 j hj o ho hne)
  · exact (pk_un (by omega)).trans (h3 b hb)
  · exact (pk_un (by omega)).trans (h4 i hi)
  · exact (pk_un (by omega)).trans h5
  · exact (pk_un (by omega)).trans h6
  · exact (pk_un (by omega)).trans h7
theorem Rel.clk1 {bm sp ph sg st wy ks nt gv se : Nat → Int32} {tk kk sk : Int32} {pl ld : Nat → Int32} {row : Nat → Int32} (h : Rel (bm, sp, ph, sg, st, wy, ks, nt, gv, se, tk, kk, sk, pl, ld) row) {k : Nat} (hk : k < 8) (v : Int32) : Rel (bm, (upd sp k v), ph, sg, st, wy, ks, nt, gv, se, tk, kk, sk, pl, ld) (upd row ((6 + (7 * k)) + 1) v) := by
  obtain ⟨h1, h2, h3, h4, h5, h6, h7⟩ := h
  refine ⟨fun j hj => ?_, fun j hj o ho hne => ?_, fun b hb => ?_, fun i hi => ?_, ?_, ?_, ?_⟩
  · obtain ⟨a0, a1, a2, a3, a4, a5, a6⟩ := h1 j hj
    exact ⟨(pk_un (by omega)).trans a0, (by by_cases e : j = k; (subst e; exact pk_us.trans pk_us.symm); exact (pk_un (by omega)).trans (a1.trans (pk_un e).symm)), (pk_un (by omega)).trans a2, (pk_un (by omega)).trans a3, (pk_un (by omega)).trans a4, (pk_un (by omega)).trans a5, (pk_un (by omega)).trans a6⟩
  · have g1 := near_ge j o
    have g2 := near_126 hj ho hne
    exact (pk_un (by omega)).trans (h2 j hj o ho hne)
  · exact (pk_un (by omega)).trans (h3 b hb)
  · exact (pk_un (by omega)).trans (h4 i hi)
  · exact (pk_un (by omega)).trans h5
  · exact (pk_un (by omega)).trans h6
  · exact (pk_un (by omega)).trans h7
theorem Rel.clk2 {bm sp ph sg st wy ks nt gv se : Nat → Int32} {tk kk sk : Int32} {pl ld : Nat → Int32} {row : Nat → Int32} (h : Rel (bm, sp, ph, sg, st, wy, ks, nt, gv, se, tk, kk, sk, pl, ld) row) {k : Nat} (hk : k < 8) (v : Int32) : Rel (bm, sp, (upd ph k v), sg, st, wy, ks, nt, gv, se, tk, kk, sk, pl, ld) (upd row ((6 + (7 * k)) + 2) v) := by
  obtain ⟨h1, h2, h3, h4, h5, h6, h7⟩ := h
  refine ⟨fun j hj => ?_, fun j hj o ho hne => ?_, fun b hb => ?_, fun i hi => ?_, ?_, ?_, ?_⟩
  · obtain ⟨a0, a1, a2, a3, a4, a5, a6⟩ := h1 j hj
    exact ⟨(pk_un (by omega)).trans a0, (pk_un (by omega)).trans a1, (by by_cases e : j = k; (subst e; exact pk_us.trans pk_us.symm); exact (pk_un (by omega)).trans (a2.trans (pk_un e).symm)), (pk_un (by omega)).trans a3, (pk_un (by omega)).trans a4, (pk_un (by omega)).trans a5, (pk_un (by omega)).trans a6⟩
  · have g1 := near_ge j o
    have g2 := near_126 hj ho hne
    exact (pk_un (by omega)).trans (h2 j hj o ho hne)
  · exact (pk_un (by omega)).trans (h3 b hb)
  · exact (pk_un (by omega)).trans (h4 i hi)
  · exact (pk_un (by omega)).trans h5
  · exact (pk_un (by omega)).trans h6
  · exact (pk_un (by omega)).trans h7
theorem Rel.clk3 {bm sp ph sg st wy ks nt gv se : Nat → Int32} {tk kk sk : Int32} {pl ld : Nat → Int32} {row : Nat → Int32} (h : Rel (bm, sp, ph, sg, st, wy, ks, nt, gv, se, tk, kk, sk, pl, ld) row) {k : Nat} (hk : k < 8) (v : Int32) : Rel (bm, sp, ph, (upd sg k v), st, wy, ks, nt, gv, se, tk, kk, sk, pl, ld) (upd row ((6 + (7 * k)) + 3) v) := by
  obtain ⟨h1, h2, h3, h4, h5, h6, h7⟩ := h
  refine ⟨fun j hj => ?_, fun j hj o ho hne => ?_, fun b hb => ?_, fun i hi => ?_, ?_, ?_, ?_⟩
  · obtain ⟨a0, a1, a2, a3, a4, a5, a6⟩ := h1 j hj
    exact ⟨(pk_un (by omega)).trans a0, (pk_un (by omega)).trans a1, (pk_un (by omega)).trans a2, (by by_cases e : j = k; (subst e; exact pk_us.trans pk_us.symm); exact (pk_un (by omega)).trans (a3.trans (pk_un e).symm)), (pk_un (by omega)).trans a4, (pk_un (by omega)).trans a5, (pk_un (by omega)).trans a6⟩
  · have g1 := near_ge j o
    have g2 := near_126 hj ho hne
    exact (pk_un (by omega)).trans (h2 j hj o ho hne)
  · exact (pk_un (by omega)).trans (h3 b hb)
  · exact (pk_un (by omega)).trans (h4 i hi)
  · exact (pk_un (by omega)).trans h5
  · exact (pk_un (by omega)).trans h6
  · exact (pk_un (by omega)).trans h7
theorem Rel.clk4 {bm sp ph sg st wy ks nt gv se : Nat → Int32} {tk kk sk : Int32} {pl ld : Nat → Int32} {row : Nat → Int32} (h : Rel (bm, sp, ph, sg, st, wy, ks, nt, gv, se, tk, kk, sk, pl, ld) row) {k : Nat} (hk : k < 8) (v : Int32) : Rel (bm, sp, ph, sg, (upd st k v), wy, ks, nt, gv, se, tk, kk, sk, pl, ld) (upd row ((6 + (7 * k)) + 4) v) := by
  obtain ⟨h1, h2, h3, h4, h5, h6, h7⟩ := h
  refine ⟨fun j hj => ?_, fun j hj o ho hne => ?_, fun b hb => ?_, fun i hi => ?_, ?_, ?_, ?_⟩
  · obtain ⟨a0, a1, a2, a3, a4, a5, a6⟩ := h1 j hj
    exact ⟨(pk_un (by omega)).trans a0, (pk_un (by omega)).trans a1, (pk_un (by omega)).trans a2, (pk_un (by omega)).trans a3, (by by_cases e : j = k; (subst e; exact pk_us.trans pk_us.symm); exact (pk_un (by omega)).trans (a4.trans (pk_un e).symm)), (pk_un (by omega)).trans a5, (pk_un (by omega)).trans a6⟩
  · have g1 := near_ge j o
    have g2 := near_126 hj ho hne
    exact (pk_un (by omega)).trans (h2 j hj o ho hne)
  · exact (pk_un (by omega)).trans (h3 b hb)
  · exact (pk_un (by omega)).trans (h4 i hi)
  · exact (pk_un (by omega)).trans h5
  · exact (pk_un (by omega)).trans h6
  · exact (pk_un (by omega)).trans h7
theorem Rel.clk5 {bm sp ph sg st wy ks nt gv se : Nat → Int32} {tk kk sk : Int32} {pl ld : Nat → Int32} {row : Nat → Int32} (h : Rel (bm, sp, ph, sg, st, wy, ks, nt, gv, se, tk, kk, sk, pl, ld) row) {k : Nat} (hk : k < 8) (v : Int32) : Rel (bm, sp, ph, sg, st, (upd wy k v), ks, nt, gv, se, tk, kk, sk, pl, ld) (upd row ((6 + (7 * k)) + 5) v) := by
  obtain ⟨h1, h2, h3, h4, h5, h6, h7⟩ := h
  refine ⟨fun j hj => ?_, fun j hj o ho hne => ?_, fun b hb => ?_, fun i hi => ?_, ?_, ?_, ?_⟩
  · obtain ⟨a0, a1, a2, a3, a4, a5, a6⟩ := h1 j hj
    exact ⟨(pk_un (by omega)).trans a0, (pk_un (by omega)).trans a1, (pk_un (by omega)).trans a2, (pk_un (by omega)).trans a3, (pk_un (by omega)).trans a4, (by by_cases e : j = k; (subst e; exact pk_us.trans pk_us.symm); exact (pk_un (by omega)).trans (a5.trans (pk_un e).symm)), (pk_un (by omega)).trans a6⟩
  · have g1 := near_ge j o
    have g2 := near_126 hj ho hne
    exact (pk_un (by omega)).trans (h2 j hj o ho hne)
  · exact (pk_un (by omega)).trans (h3 b hb)
  · exact (pk_un (by omega)).trans (h4 i hi)
  · exact (pk_un (by omega)).trans h5
  · exact (pk_un (by omega)).trans h6
  · exact (pk_un (by omega)).trans h7
theorem Rel.clk6 {bm sp ph sg st wy ks nt gv se : Nat → Int32} {tk kk sk : Int32} {pl ld : Nat → Int32} {row : Nat → Int32} (h : Rel (bm, sp, ph, sg, st, wy, ks, nt, gv, se, tk, kk, sk, pl, ld) row) {k : Nat} (hk : k < 8) (v : Int32) : Rel (bm, sp, ph, sg, st, wy, (upd ks k v), nt, gv, se, tk, kk, sk, pl, ld) (upd row ((6 + (7 * k)) + 6) v) := by
  obtain ⟨h1, h2, h3, h4, h5, h6, h7⟩ := h
  refine ⟨fun j hj => ?_, fun j hj o ho hne => ?_, fun b hb => ?_, fun i hi => ?_, ?_, ?_, ?_⟩
  · obtain ⟨a0, a1, a2, a3, a4, a5, a6⟩ := h1 j hj
    exact ⟨(pk_un (by omega)).trans a0, (pk_un (by omega)).trans a1, (pk_un (by omega)).trans a2, (pk_un (by omega)).trans a3, (pk_un (by omega)).trans a4, (pk_un (by omega)).trans a5, (by by_cases e : j = k; (subst e; exact pk_us.trans pk_us.symm); exact (pk_un (by omega)).trans (a6.trans (pk_un e).symm))⟩
  · have g1 := near_ge j o
    have g2 := near_126 hj ho hne
    exact (pk_un (by omega)).trans (h2 j hj o ho hne)
  · exact (pk_un (by omega)).trans (h3 b hb)
  · exact (pk_un (by omega)).trans (h4 i hi)
  · exact (pk_un (by omega)).trans h5
  · exact (pk_un (by omega)).trans h6
  · exact (pk_un (by omega)).trans h7
theorem Rel.gv {bm sp ph sg st wy ks nt gv se : Nat → Int32} {tk kk sk : Int32} {pl ld : Nat → Int32} {row : Nat → Int32} (h : Rel (bm, sp, ph, sg, st, wy, ks, nt, gv, se, tk, kk, sk, pl, ld) row) {k : Nat} (hk : k < 3) (v : Int32) : Rel (bm, sp, ph, sg, st, wy, ks, nt, (upd gv k v), se, tk, kk, sk, pl, ld) (upd row (0 + k) v) := by
  obtain ⟨h1, h2, h3, h4, h5, h6, h7⟩ := h
  refine ⟨fun j hj => ?_, fun j hj o ho hne => ?_, fun b hb => ?_, fun i hi => ?_, ?_, ?_, ?_⟩
  · obtain ⟨a0, a1, a2, a3, a4, a5, a6⟩ := h1 j hj
    exact ⟨(pk_un (by omega)).trans a0, (pk_un (by omega)).trans a1, (pk_un (by omega)).trans a2, (pk_un (by omega)).trans a3, (pk_un (by omega)).trans a4, (pk_un (by omega)).trans a5, (pk_un (by omega)).trans a6⟩
  · have g1 := near_ge j o
    have g2 := near_126 hj ho hne
    exact (pk_un (by omega)).trans (h2 j hj o ho hne)
  · by_cases e : b = k
    · subst e; exact pk_us.trans pk_us.symm
    · exact (pk_un (by omega)).trans ((h3 b hb).trans (pk_un e).symm)
  · exact (pk_un (by omega)).trans (h4 i hi)
  · exact (pk_un (by omega)).trans h5
  · exact (pk_un (by omega)).trans h6
  · exact (pk_un (by omega)).trans h7
theorem Rel.se {bm sp ph sg st wy ks nt gv se : Nat → Int32} {tk kk sk : Int32} {pl ld : Nat → Int32} {row : Nat → Int32} (h : Rel (bm, sp, ph, sg, st, wy, ks, nt, gv, se, tk, kk, sk, pl, ld) row) {k : Nat} (hk : k < 3) (v : Int32) : Rel (bm, sp, ph, sg, st, wy, ks, nt, gv, (upd se k v), tk, kk, sk, pl, ld) (upd row (3 + k) v) := by
  obtain ⟨h1, h2, h3, h4, h5, h6, h7⟩ := h
  refine ⟨fun j hj => ?_, fun j hj o ho hne => ?_, fun b hb => ?_, fun i hi => ?_, ?_, ?_, ?_⟩
  · obtain ⟨a0, a1, a2, a3, a4, a5, a6⟩ := h1 j hj
    exact ⟨(pk_un (by omega)).trans a0, (pk_un (by omega)).trans a1, (pk_un (by omega)).trans a2, (pk_un (by omega)).trans a3, (pk_un (by omega)).trans a4, (pk_un (by omega)).trans a5, (pk_un (by omega)).trans a6⟩
  · have g1 := near_ge j o
    have g2 := near_126 hj ho hne
    exact (pk_un (by omega)).trans (h2 j hj o ho hne)
  · exact (pk_un (by omega)).trans (h3 b hb)
  · by_cases e : i = k
    · subst e; exact pk_us.trans pk_us.symm
    · exact (pk_un (by omega)).trans ((h4 i hi).trans (pk_un e).symm)
  · exact (pk_un (by omega)).trans h5
  · exact (pk_un (by omega)).trans h6
  · exact (pk_un (by omega)).trans h7
theorem Rel.tk {bm sp ph sg st wy ks nt gv se : Nat → Int32} {tk kk sk : Int32} {pl ld : Nat → Int32} {row : Nat → Int32} (h : Rel (bm, sp, ph, sg, st, wy, ks, nt, gv, se, tk, kk, sk, pl, ld) row)  (v : Int32) : Rel (bm, sp, ph, sg, st, wy, ks, nt, gv, se, v, kk, sk, pl, ld) (upd row 126 v) := by
  obtain ⟨h1, h2, h3, h4, h5, h6, h7⟩ := h
  refine ⟨fun j hj => ?_, fun j hj o ho hne => ?_, fun b hb => ?_, fun i hi => ?_, ?_, ?_, ?_⟩
  · obtain ⟨a0, a1, a2, a3, a4, a5, a6⟩ := h1 j hj
    exact ⟨(pk_un (by omega)).trans a0, (pk_un (by omega)).trans a1, (pk_un (by omega)).trans a2, (pk_un (by omega)).trans a3, (pk_un (by omega)).trans a4, (pk_un (by omega)).trans a5, (pk_un (by omega)).trans a6⟩
  · have g1 := near_ge j o
    have g2 := near_126 hj ho hne
    exact (pk_un (by omega)).trans (h2 j hj o ho hne)
  · exact (pk_un (by omega)).trans (h3 b hb)
  · exact (pk_un (by omega)).trans (h4 i hi)
  · exact pk_us
  · exact (pk_un (by omega)).trans h6
  · exact (pk_un (by omega)).trans h7
theorem Rel.kk {bm sp ph sg st wy ks nt gv se : Nat → Int32} {tk kk sk : Int32} {pl ld : Nat → Int32} {row : Nat → Int32} (h : Rel (bm, sp, ph, sg, st, wy, ks, nt, gv, se, tk, kk, sk, pl, ld) row)  (v : Int32) : Rel (bm, sp, ph, sg, st, wy, ks, nt, gv, se, tk, v, sk, pl, ld) (upd row 127 v) := by
  obtain ⟨h1, h2, h3, h4, h5, h6, h7⟩ := h
  refine ⟨fun j hj => ?_, fun j hj o ho hne => ?_, fun b hb => ?_, fun i hi => ?_, ?_, ?_, ?_⟩
  · obtain ⟨a0, a1, a2, a3, a4, a5, a6⟩ := h1 j hj
    exact ⟨(pk_un (by omega)).trans a0, (pk_un (by omega)).trans a1, (pk_un (by omega)).trans a2, (pk_un (by omega)).trans a3, (pk_un (by omega)).trans a4, (pk_un (by omega)).trans a5, (pk_un (by omega)).trans a6⟩
  · have g1 := near_ge j o
    have g2 := near_126 hj ho hne
    exact (pk_un (by omega)).trans (h2 j hj o ho hne)
  · exact (pk_un (by omega)).trans (h3 b hb)
  · exact (pk_un (by omega)).trans (h4 i hi)
  · exact (pk_un (by omega)).trans h5
  · exact pk_us
  · exact (pk_un (by omega)).trans h7
theorem Rel.sk {bm sp ph sg st wy ks nt gv se : Nat → Int32} {tk kk sk : Int32} {pl ld : Nat → Int32} {row : Nat → Int32} (h : Rel (bm, sp, ph, sg, st, wy, ks, nt, gv, se, tk, kk, sk, pl, ld) row)  (v : Int32) : Rel (bm, sp, ph, sg, st, wy, ks, nt, gv, se, tk, kk, v, pl, ld) (upd row 128 v) := by
  obtain ⟨h1, h2, h3, h4, h5, h6, h7⟩ := h
  refine ⟨fun j hj => ?_, fun j hj o ho hne => ?_, fun b hb => ?_, fun i hi => ?_, ?_, ?_, ?_⟩
  · obtain ⟨a0, a1, a2, a3, a4, a5, a6⟩ := h1 j hj
    exact ⟨(pk_un (by omega)).trans a0, (pk_un (by omega)).trans a1, (pk_un (by omega)).trans a2, (pk_un (by omega)).trans a3, (pk_un (by omega)).trans a4, (pk_un (by omega)).trans a5, (pk_un (by omega)).trans a6⟩
  · have g1 := near_ge j o
    have g2 := near_126 hj ho hne
    exact (pk_un (by omega)).trans (h2 j hj o ho hne)
  · exact (pk_un (by omega)).trans (h3 b hb)
  · exact (pk_un (by omega)).trans (h4 i hi)
  · exact (pk_un (by omega)).trans h5
  · exact (pk_un (by omega)).trans h6
  · exact pk_us
theorem Rel.nr {bm sp ph sg st wy ks nt gv se : Nat → Int32} {tk kk sk : Int32} {pl ld : Nat → Int32} {row : Nat → Int32} (h : Rel (bm, sp, ph, sg, st, wy, ks, nt, gv, se, tk, kk, sk, pl, ld) row) {k p : Nat} (hk : k < 8) (hp : p < 8) (hkp : k ≠ p) (v : Int32) : Rel (bm, sp, ph, sg, st, wy, ks, (upd (upd nt (k * 8 + p) v) (p * 8 + k) v), gv, se, tk, kk, sk, pl, ld) (upd row (f_X6_near k p) v) := by
  obtain ⟨h1, h2, h3, h4, h5, h6, h7⟩ := h
  have g1 := near_ge k p
  have g2 := near_126 hk hp hkp
  refine ⟨fun j hj => ?_, fun j hj o ho hne => ?_, fun b hb => ?_, fun i hi => ?_, ?_, ?_, ?_⟩
  · obtain ⟨a0, a1, a2, a3, a4, a5, a6⟩ := h1 j hj
    exact ⟨(pk_un (by omega)).trans a0, (pk_un (by omega)).trans a1, (pk_un (by omega)).trans a2, (pk_un (by omega)).trans a3, (pk_un (by omega)).trans a4, (pk_un (by omega)).trans a5, (pk_un (by omega)).trans a6⟩
  · show upd row (f_X6_near k p) v (f_X6_near j o) = upd (upd nt (k * 8 + p) v) (p * 8 + k) v (j * 8 + o)
    by_cases e1 : j = p ∧ o = k
    · obtain ⟨rfl, rfl⟩ := e1
      have e2 : f_X6_near j o = f_X6_near o j := by
        unfold f_X6_near
        split <;> split <;> omega
      rw [e2]
      exact pk_us.trans pk_us.symm
    · by_cases e3 : j = k ∧ o = p
      · obtain ⟨rfl, rfl⟩ := e3
        refine pk_us.trans ?_
        rw [pk_un (by omega)]
        exact pk_us.symm
      · have e4 : f_X6_near j o ≠ f_X6_near k p := by
          unfold f_X6_near
          split <;> split <;> omega
        refine (pk_un e4).trans ?_
        rw [pk_un (by omega), pk_un (by omega)]
        exact h2 j hj o ho hne
  · exact (pk_un (by omega)).trans (h3 b hb)
  · exact (pk_un (by omega)).trans (h4 i hi)
  · exact (pk_un (by omega)).trans h5
  · exact (pk_un (by omega)).trans h6
  · exact (pk_un (by omega)).trans h7
