/-! what of an object can be told: its state, its snapshot, its saved states, its text -/
abbrev Ab : Type := StT × Option StT × List StT × List Int32
def hsL (n : Nat) (cc : Nat → StT) : List StT := (List.range n).map (fun i => cl (cc i))
def bfL (n : Nat) (codes : Nat → Int32) : List Int32 := (List.range n).map codes
def aob (o : Ob) : Ab := (cl (oZ o), (if osn o = true then some (cl (oS o)) else none), hsL (osz o) (occ o), bfL (oln o) (ocd o))
/-- what else must hold of an object -/
def Gd (o : Ob) : Prop := osz o ≤ 6 ∧ oln o ≤ 60 ∧ vp_in (ock o) 8
/-- a state saved behind the others, the oldest one dropped where there are six -/
def pushL (h : List StT) (z : StT) : List StT := (if h.length = 6 then h.tail else h) ++ [z]
theorem hsL_len (n : Nat) (cc : Nat → StT) : (hsL n cc).length = n := by
  unfold hsL
  rw [List.length_map, List.length_range]
theorem bfL_len (n : Nat) (codes : Nat → Int32) : (bfL n codes).length = n := by
  unfold bfL
  rw [List.length_map, List.length_range]
theorem hs_save {n : Nat} (hn : n ≤ 6) (cc : Nat → StT) (z : StT) : hsL (hsz n) (hcc n cc z) = pushL (hsL n cc) (cl z) := by
  have h : n = 0 ∨ n = 1 ∨ n = 2 ∨ n = 3 ∨ n = 4 ∨ n = 5 ∨ n = 6 := by omega
  rcases h with e | e | e | e | e | e | e <;> subst e <;> rfl
theorem hs_last (n : Nat) (cc : Nat → StT) : hsL (n + 1) cc = hsL n cc ++ [cl (cc n)] := by
  unfold hsL
  rw [List.range_succ, List.map_append]
  rfl
/-- the text as it stands -/
def bc (l : List Int32) : Nat → Int32 := fun i => l.getD i 0
theorem bc_at {n : Nat} (codes : Nat → Int32) {j : Nat} (hj : j < n) : codes j = bc (bfL n codes) j := by
  unfold bc bfL
  rw [List.getD_eq_getElem?_getD, List.getElem?_map, List.getElem?_range hj]
  rfl
theorem ab_eq {a a' : StT} {b b' : Option StT} {c c' : List StT} {d d' : List Int32} (h1 : a = a') (h2 : b = b') (h3 : c = c') (h4 : d = d') : ((a, b, c, d) : Ab) = (a', b', c', d') := by
  rw [h1, h2, h3, h4]
/-! what calls that are not refused leave -/
def spZ (z : StT) (k : Nat) (v : Int32) : StT := (zbm z, upd (zsp z) k v, zph z, zsg z, zst z, zwy z, zks z, znt z, zgv z, zse z, ztk z, zkk z, zsk z, Z0, Z0)
def seZ (z : StT) (k : Nat) (v : Int32) : StT := (zbm z, zsp z, zph z, zsg z, zst z, zwy z, zks z, znt z, zgv z, upd (zse z) k v, ztk z, zkk z, zsk z, Z0, Z0)
/-- a state in place of the one that was, which is saved -/
def newA (A : Ab) (z : StT) : Ab := (z, A.2.1, pushL A.2.2.1 A.1, A.2.2.2)
def obz (A : Ab) : Int32 × StT := obr (bc A.2.2.2) A.2.2.2.length A.2.2.2.length 0 (0, 0, 0, false, 0) 0 A.1
section AB
variable {o : Ob}
theorem ab_pass (hg : Gd o) (n : Int32) : aob (ob_pass o n) = newA (aob o) (tks n.toNatClampNeg (aob o).1) ∧ ov_pass o n = tkc n.toNatClampNeg (aob o).1 ∧ Gd (ob_pass o n) := by
  have h := lp_eq (bm := zbm (oZ o)) (sp := zsp (oZ o)) (ph := zph (oZ o)) (sg := zsg (oZ o)) (st := zst (oZ o)) (wy := zwy (oZ o)) (ks := zks (oZ o)) (nt := znt (oZ o)) (gv := zgv (oZ o)) (se := zse (oZ o)) (tk := ztk (oZ o)) (kk := zkk (oZ o)) (sk := zsk (oZ o)) (oZ o).2.2.2.2.2.2.2.2.2.2.2.2.2.1 n
  have h1 := congrArg (fun a : Int32 × StT => a.1) h
  have h2 := congrArg (fun a : Int32 × StT => a.2) h
  refine ⟨ab_eq h2 rfl (hs_save hg.1 _ _) rfl, h1, ?_, hg.2.1, hg.2.2⟩
  show hsz (osz o) ≤ 6
  unfold hsz
  have := hg.1
  split <;> omega
theorem hsz_le {n : Nat} (h : n ≤ 6) : hsz n ≤ 6 := by
  unfold hsz
  split <;> omega
theorem ab_kick (hg : Gd o) (k : Nat) (v : Int32) : aob (ob_kick o k v) = newA (aob o) (kkZ (aob o).1 k v) ∧ ov_kick o k v = zph (kkZ (aob o).1 k v) k ∧ Gd (ob_kick o k v) :=
  ⟨ab_eq rfl rfl (hs_save hg.1 _ _) rfl, rfl, hsz_le hg.1, hg.2.1, hg.2.2⟩
theorem ab_wind (hg : Gd o) (k : Nat) : aob (ob_wind o k) = newA (aob o) (wdZ (aob o).1 k) ∧ ov_wind o k = zsg (wdZ (aob o).1 k) k - zsg (aob o).1 k ∧ Gd (ob_wind o k) :=
  ⟨ab_eq rfl rfl (hs_save hg.1 _ _) rfl, rfl, hsz_le hg.1, hg.2.1, hg.2.2⟩
theorem ab_speed (hg : Gd o) (k : Nat) (v : Int32) : aob (ob_speed o k v) = newA (aob o) (spZ (aob o).1 k v) ∧ ov_speed o k v = zsp (aob o).1 k ∧ Gd (ob_speed o k v) :=
  ⟨ab_eq rfl rfl (hs_save hg.1 _ _) rfl, rfl, hsz_le hg.1, hg.2.1, hg.2.2⟩
theorem ab_give (hg : Gd o) (b : Nat) (v : Int32) : aob (ob_give o b v) = newA (aob o) (gvZ (aob o).1 b v) ∧ ov_give o b v = zgv (aob o).1 b ∧ Gd (ob_give o b v) :=
  ⟨ab_eq rfl rfl (hs_save hg.1 _ _) rfl, rfl, hsz_le hg.1, hg.2.1, hg.2.2⟩
theorem ab_set (hg : Gd o) (k : Nat) (v : Int32) : aob (ob_set o k v) = newA (aob o) (seZ (aob o).1 k v) ∧ ov_set o k v = zse (aob o).1 k ∧ Gd (ob_set o k v) :=
  ⟨ab_eq rfl rfl (hs_save hg.1 _ _) rfl, rfl, hsz_le hg.1, hg.2.1, hg.2.2⟩
theorem ab_move (hg : Gd o) (k : Nat) (b : Int32) : aob (ob_move o k b) = newA (aob o) (mvZ (aob o).1 k b) ∧ ov_move o k b = f_J6_bitCount_0f7a4 (f_X4_maskOfBeam (zbm (mvZ (aob o).1 k b)) b) - 1 ∧ Gd (ob_move o k b) :=
  ⟨ab_eq rfl rfl (hs_save hg.1 _ _) rfl, rfl, hsz_le hg.1, hg.2.1, hg.2.2⟩
theorem ab_append (hg : Gd o) (c : Int32) (hf : ¬ f_X3_isFull (oln o) = true) : aob (ob_append o c) = ((aob o).1, (aob o).2.1, (aob o).2.2.1, (aob o).2.2.2 ++ [c]) ∧ ov_append o c = nI ((aob o).2.2.2.length + 1) ∧ Gd (ob_append o c) := by
  have hlt : oln o < 60 := ful_lt hg.2.1 hf
  have e : f_X3_add (ocd o) (oln o) c = (upd (ocd o) (oln o) c, oln o + 1) := by
    unfold f_X3_add
    rw [if_neg hf]
  have e2 : ob_append o c = (osn o, oZ o, oT o, oS o, osz o, oqa o, occ o, (f_X3_add (ocd o) (oln o) c).1, (f_X3_add (ocd o) (oln o) c).2, odu o, olt o, ock o, obk o, onm o) := rfl
  have e3 : ov_append o c = nI (f_X3_add (ocd o) (oln o) c).2 := rfl
  rw [e2, e3, e]
  refine ⟨ab_eq rfl rfl rfl ?_, ?_, hg.1, hlt, hg.2.2⟩
  · show bfL (oln o + 1) (upd (ocd o) (oln o) c) = bfL (oln o) (ocd o) ++ [c]
    unfold bfL
    rw [List.range_succ, List.map_append]
    congr 1
    · refine List.map_congr_left (fun j hj => ?_)
      have := List.mem_range.mp hj
      exact pk_un (by omega)
    · show [upd (ocd o) (oln o) c (oln o)] = [c]
      rw [pk_us]
  · show nI (oln o + 1) = nI ((bfL (oln o) (ocd o)).length + 1)
    rw [bfL_len]
theorem ab_clear (hg : Gd o) : aob (ob_clearBuffer o) = ((aob o).1, (aob o).2.1, (aob o).2.2.1, []) ∧ ov_clearBuffer o = nI (aob o).2.2.2.length ∧ Gd (ob_clearBuffer o) := by
  refine ⟨ab_eq rfl rfl rfl rfl, ?_, hg.1, Nat.zero_le _, hg.2.2⟩
  show nI (oln o) = nI (bfL (oln o) (ocd o)).length
  rw [bfL_len]
theorem ab_keep (hg : Gd o) : aob (ob_keep o) = ((aob o).1, some (aob o).1, (aob o).2.2.1, (aob o).2.2.2) ∧ ov_keep o = ztk (aob o).1 ∧ Gd (ob_keep o) :=
  ⟨ab_eq rfl rfl rfl rfl, rfl, hg⟩
theorem ab_goBack (hg : Gd o) (hs : osn o = true) : (aob o).2.1 = some (cl (oS o)) ∧ aob (ob_goBack o) = newA (aob o) (cl (oS o)) ∧ ov_goBack o = ztk (cl (oS o)) ∧ Gd (ob_goBack o) :=
  ⟨if_pos hs, ab_eq rfl rfl (hs_save hg.1 _ _) rfl, rfl, hsz_le hg.1, hg.2.1, hg.2.2⟩
theorem ab_undo (hg : Gd o) (h1 : 1 ≤ osz o) : ∃ z h, (aob o).2.2.1 = h ++ [z] ∧ aob (ob_undo o) = (z, (aob o).2.1, h, (aob o).2.2.2) ∧ ov_undo o = nI h.length ∧ Gd (ob_undo o) := by
  refine ⟨cl (occ o (osz o - 1)), hsL (osz o - 1) (occ o), ?_, ab_eq rfl rfl rfl rfl, ?_, ?_, hg.2.1, hg.2.2⟩
  · have e := hs_last (osz o - 1) (occ o)
    rw [show osz o - 1 + 1 = osz o by omega] at e
    exact e
  · show nI (osz o - 1) = nI (hsL (osz o - 1) (occ o)).length
    rw [hsL_len]
  · show osz o - 1 ≤ 6
    have := hg.1
    omega
theorem ab_first (hg : Gd o) : aob (ob_firstError o) = aob o ∧ ov_firstError o = erZ (bc (aob o).2.2.2) (aob o).2.2.2.length ∧ Gd (ob_firstError o) := by
  refine ⟨rfl, ?_, hg.1, hg.2.1, (ioe_all (ocd o) (oln o) (olt o) (ock o) (obk o) (onm o) hg.2.2).2⟩
  show (f_X3_indexOfError (ocd o) (oln o) (olt o) (ock o) (obk o) (onm o)).1 = erZ (bc (bfL (oln o) (ocd o))) (bfL (oln o) (ocd o)).length
  rw [bfL_len]
  exact (er_eq hg.2.1 (fun j hj => bc_at (ocd o) hj) (olt o) (ock o) (onm o) (obk o)).1
theorem ab_next (hg : Gd o) : aob (ob_nextStrike o) = aob o ∧ ov_nextStrike o = nz 500 1 (aob o).1 ∧ Gd (ob_nextStrike o) :=
  ⟨rfl, nz_eq _, hg⟩
theorem ab_locked (hg : Gd o) (k j : Nat) : aob (ob_lockedIn o k j) = aob o ∧ ov_lockedIn o k j = uz k j 500 0 (aob o).1 ∧ Gd (ob_lockedIn o k j) :=
  ⟨rfl, uz_eq k j _, hg⟩
theorem ab_best (hg : Gd o) (hn : NS (znt (aob o).1)) (b : Nat) : aob (ob_bestGive o b) = aob o ∧ ov_bestGive o b = bestZ (aob o).1 b ∧ Gd (ob_bestGive o b) :=
  ⟨rfl, best_eq hn _ _ _ _ _ _ _ _ _ _ _ _ _ _ _ b, hg⟩
theorem ab_count (hg : Gd o) (hn : NS (znt (aob o).1)) (w : Int32) : aob (ob_count o w) = aob o ∧ ov_count o w = (f_X4_numberOfAll (zsg (aob o).1) (zst (aob o).1) (znt (aob o).1) (zse (aob o).1) (ztk (aob o).1) (zkk (aob o).1) (zsk (aob o).1) Z0 w (nI (aob o).2.2.1.length)).1 ∧ Gd (ob_count o w) := by
  refine ⟨rfl, ?_, hg⟩
  show (f_X4_numberOfAll (zsg (oZ o)) (zst (oZ o)) (znt (oZ o)) (zse (oZ o)) (ztk (oZ o)) (zkk (oZ o)) (zsk (oZ o)) _ w (nI (osz o))).1 = (f_X4_numberOfAll (zsg (oZ o)) (zst (oZ o)) (znt (oZ o)) (zse (oZ o)) (ztk (oZ o)) (zkk (oZ o)) (zsk (oZ o)) Z0 w (nI (hsL (osz o) (occ o)).length)).1
  rw [hsL_len]
  exact all_l hn _ Z0 w _
theorem ab_ifP (hg : Gd o) (n : Int32) (k : Nat) (w : Int32) : aob (ob_ifPassed o n k w) = aob o ∧ ov_ifPassed o n k w = f_X5_triedNumber (zst (aob o).1) (zph (tks n.toNatClampNeg (aob o).1)) (zst (tks n.toNatClampNeg (aob o).1)) (znt (tks n.toNatClampNeg (aob o).1)) (zse (aob o).1) k w ∧ Gd (ob_ifPassed o n k w) := by
  refine ⟨rfl, ?_, hg⟩
  show f_X5_triedNumber (zst (oZ o)) (f_X4_letPass (zbm (oZ o)) (zsp (oZ o)) (zph (oZ o)) (zsg (oZ o)) (zst (oZ o)) (zwy (oZ o)) (znt (oZ o)) (zgv (oZ o)) (zse (oZ o)) (ztk (oZ o)) (zsk (oZ o)) _ n).2.1 (f_X4_letPass (zbm (oZ o)) (zsp (oZ o)) (zph (oZ o)) (zsg (oZ o)) (zst (oZ o)) (zwy (oZ o)) (znt (oZ o)) (zgv (oZ o)) (zse (oZ o)) (ztk (oZ o)) (zsk (oZ o)) _ n).2.2.2.1 (f_X4_letPass (zbm (oZ o)) (zsp (oZ o)) (zph (oZ o)) (zsg (oZ o)) (zst (oZ o)) (zwy (oZ o)) (znt (oZ o)) (zgv (oZ o)) (zse (oZ o)) (ztk (oZ o)) (zsk (oZ o)) _ n).2.2.2.2.2.1 (zse (oZ o)) k w = _
  rw [lp_ph (ks := zks (oZ o)) (kk := zkk (oZ o)), lp_st (ks := zks (oZ o)) (kk := zkk (oZ o)), lp_nt (ks := zks (oZ o)) (kk := zkk (oZ o))]
  rfl
theorem ab_digest (hg : Gd o) (hn : NS (znt (aob o).1)) : aob (ob_digest o) = aob o ∧ ov_digest o = dgZ (aob o).2.1.isSome (aob o).1 (aob o).2.2.1.length (bc (aob o).2.2.2) (aob o).2.2.2.length ∧ Gd (ob_digest o) := by
  refine ⟨rfl, ?_, hg⟩
  have e := dg_eq (bm := zbm (oZ o)) (sp := zsp (oZ o)) (ph := zph (oZ o)) (sg := zsg (oZ o)) (st := zst (oZ o)) (wy := zwy (oZ o)) (ks := zks (oZ o)) (nt := znt (oZ o)) (gv := zgv (oZ o)) (se := zse (oZ o)) (tk := ztk (oZ o)) (kk := zkk (oZ o)) (sk := zsk (oZ o)) hn (osn o) (oZ o).2.2.2.2.2.2.2.2.2.2.2.2.2.2 (oT o).2.2.2.2.2.2.2.2.2.2.2.2.2.1 (osz o) hg.2.1 (fun j hj => bc_at (ocd o) hj) Z0 Z0
  have e1 : (aob o).2.1.isSome = osn o := by
    show (if osn o = true then some (cl (oS o)) else none).isSome = osn o
    cases osn o <;> rfl
  have e2 : (aob o).2.2.1.length = osz o := hsL_len _ _
  have e3 : (aob o).2.2.2.length = oln o := bfL_len _ _
  rw [e1, e2, e3]
  exact e
theorem ab_obey (hg : Gd o) (hc : (f_X3_isComplete (ocd o) (oln o) (olt o) (ock o) (obk o) (onm o)).1 = true) : aob (ob_obey o) = ((obz (aob o)).2, (aob o).2.1, pushL (aob o).2.2.1 (aob o).1, []) ∧ ov_obey o = (obz (aob o)).1 := by
  have hl := hg.2.1
  have e0 := obr_eq (sp := zsp (oZ o)) (gv := zgv (oZ o)) (se := zse (oZ o)) (codes := ocd o) (len := oln o) hl (oln o) 0 0 (zbm (oZ o), zph (oZ o), zsg (oZ o), zst (oZ o), zwy (oZ o), zks (oZ o), znt (oZ o), ztk (oZ o), zkk (oZ o), zsk (oZ o), (oZ o).2.2.2.2.2.2.2.2.2.2.2.2.2.1) (0, (f_X3_isComplete (ocd o) (oln o) (olt o) (ock o) (obk o) (onm o)).2.2.1, (f_X3_isComplete (ocd o) (oln o) (olt o) (ock o) (obk o) (onm o)).2.2.2.1, (f_X3_isComplete (ocd o) (oln o) (olt o) (ock o) (obk o) (onm o)).2.2.2.2.1, (f_X3_isComplete (ocd o) (oln o) (olt o) (ock o) (obk o) (onm o)).2.2.2.2.2) (Nat.zero_add _)
  have e1 := obr_pr (codes := ocd o) (codes' := bc (bfL (oln o) (ocd o))) hl (fun j hj => bc_at (ocd o) hj) (oln o) 0 (0, (f_X3_isComplete (ocd o) (oln o) (olt o) (ock o) (obk o) (onm o)).2.2.1, (f_X3_isComplete (ocd o) (oln o) (olt o) (ock o) (obk o) (onm o)).2.2.2.1, (f_X3_isComplete (ocd o) (oln o) (olt o) (ock o) (obk o) (onm o)).2.2.2.2.1, (f_X3_isComplete (ocd o) (oln o) (olt o) (ock o) (obk o) (onm o)).2.2.2.2.2) (0, 0, 0, false, 0) 0 (cl (oZ o)) (Nat.zero_add _) (Or.inl ⟨rfl, rfl⟩) (cm_gc hl hc _ _ _ _)
  have e2 : obz (aob o) = obr (bc (bfL (oln o) (ocd o))) (bfL (oln o) (ocd o)).length (bfL (oln o) (ocd o)).length 0 (0, 0, 0, false, 0) 0 (cl (oZ o)) := rfl
  rw [bfL_len] at e2
  rw [e2, ← e1]
  have h1 := congrArg (fun a : Int32 × StT => a.1) e0
  have h2 := congrArg (fun a : Int32 × StT => a.2) e0
  exact ⟨ab_eq h2 rfl (hs_save hg.1 _ _) rfl, h1⟩
end AB
