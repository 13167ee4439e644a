/-! the calls, told by what can be told of an object: answer (a refusal by its number) and what is left -/
def rI : Int64 := -9000000000000000001
def rA : Int64 := -9000000000000000002
def rS : Int64 := -9000000000000000003
def passA (A : Ab) (n : Int32) : Int64 × Ab := if f_X5_areTicksOfACall n = true then ((tkc n.toNatClampNeg A.1).toInt64, newA A (tks n.toNatClampNeg A.1)) else (rA, A)
def kickA (A : Ab) (k v : Int32) : Int64 × Ab := if f_X5_isClock k = true then (if (¬ (v = 0)) ∧ (¬ (v < (-500 : Int32))) ∧ (v ≤ (500 : Int32)) then ((zph (kkZ A.1 k.toNatClampNeg v) k.toNatClampNeg).toInt64, newA A (kkZ A.1 k.toNatClampNeg v)) else (rA, A)) else (rI, A)
def moveA (A : Ab) (k b : Int32) : Int64 × Ab := if f_X5_isClock k = true then (if f_X5_isBeam b = true then (if ¬ (f_X4_hangsOn (zbm A.1) k.toNatClampNeg b) = true then ((f_J6_bitCount_0f7a4 (f_X4_maskOfBeam (zbm (mvZ A.1 k.toNatClampNeg b)) b) - 1).toInt64, newA A (mvZ A.1 k.toNatClampNeg b)) else (rS, A)) else (rI, A)) else (rI, A)
def windA (A : Ab) (k : Int32) : Int64 × Ab := if f_X5_isClock k = true then ((zsg (wdZ A.1 k.toNatClampNeg) k.toNatClampNeg - zsg A.1 k.toNatClampNeg).toInt64, newA A (wdZ A.1 k.toNatClampNeg)) else (rI, A)
def speedA (A : Ab) (k v : Int32) : Int64 × Ab := if f_X5_isClock k = true then (if (¬ (v < (10 : Int32))) ∧ (v ≤ (60 : Int32)) then ((zsp A.1 k.toNatClampNeg).toInt64, newA A (spZ A.1 k.toNatClampNeg v)) else (rA, A)) else (rI, A)
def giveA (A : Ab) (b v : Int32) : Int64 × Ab := if f_X5_isBeam b = true then (if (¬ (v < 0)) ∧ (v ≤ (20 : Int32)) then ((zgv A.1 b.toNatClampNeg).toInt64, newA A (gvZ A.1 b.toNatClampNeg v)) else (rA, A)) else (rI, A)
def setA (A : Ab) (k v : Int32) : Int64 × Ab := if f_X5_isSetting k = true then (if (¬ (v < (f_X5_leastOfSetting k))) ∧ (v ≤ (f_X5_mostOfSetting k)) then ((zse A.1 k.toNatClampNeg).toInt64, newA A (seZ A.1 k.toNatClampNeg v)) else (rA, A)) else (rI, A)
def appendA (A : Ab) (c : Int32) : Int64 × Ab := if (¬ (c < (33 : Int32))) ∧ (c ≤ (126 : Int32)) then (if ¬ (f_X3_isFull A.2.2.2.length) = true then ((nI (A.2.2.2.length + 1)).toInt64, (A.1, A.2.1, A.2.2.1, A.2.2.2 ++ [c])) else (rS, A)) else (rA, A)
def clearA (A : Ab) : Ab := (A.1, A.2.1, A.2.2.1, [])
def firstV (A : Ab) : Int32 := erZ (bc A.2.2.2) A.2.2.2.length
def obeyA (A : Ab) : Int64 × Ab := if cmZ (bc A.2.2.2) A.2.2.2.length = true then ((obz A).1.toInt64, ((obz A).2, A.2.1, pushL A.2.2.1 A.1, [])) else (rA, A)
def keepA (A : Ab) : Ab := (A.1, some A.1, A.2.2.1, A.2.2.2)
def goBackA (A : Ab) : Int64 × Ab := match A.2.1 with
  | none => (rS, A)
  | some z => ((ztk z).toInt64, newA A z)
def undoA (A : Ab) : Int64 × Ab := match A.2.2.1.getLast? with
  | none => (rS, A)
  | some z => ((nI A.2.2.1.dropLast.length).toInt64, (z, A.2.1, A.2.2.1.dropLast, A.2.2.2))
def clkV (z : StT) (k : Nat) (w : Int32) : Int32 := f_X4_numberOfClock (zbm z) (zsp z) (zph z) (zsg z) (zst z) (zwy z) (zks z) (znt z) (zgv z) (zse z) k w
def parV (z : StT) (k o : Nat) (w : Int32) : Int32 := f_X4_numberOfPair (zbm z) (zph z) (zsg z) (znt z) (zse z) k o w
def bmV (z : StT) (b w : Int32) : Int32 := f_X4_numberOfBeam (zbm z) (zph z) (zsg z) (zgv z) (zse z) b w
def cntV (z : StT) (n : Nat) (w : Int32) : Int32 := (f_X4_numberOfAll (zsg z) (zst z) (znt z) (zse z) (ztk z) (zkk z) (zsk z) Z0 w (nI n)).1
def ifV (z : StT) (n : Nat) (k : Nat) (w : Int32) : Int32 := f_X5_triedNumber (zst z) (zph (tks n z)) (zst (tks n z)) (znt (tks n z)) (zse z) k w
def clockA (A : Ab) (k w : Int32) : Int64 := if f_X5_isClock k = true then (if (¬ (w < 0)) ∧ (w ≤ (10 : Int32)) then (clkV A.1 k.toNatClampNeg w).toInt64 else rA) else rI
def pairA (A : Ab) (k o w : Int32) : Int64 := if f_X5_isPair k o = true then (if (¬ (w < 0)) ∧ (w ≤ (2 : Int32)) then (parV A.1 k.toNatClampNeg o.toNatClampNeg w).toInt64 else rA) else rI
def beamA (A : Ab) (b w : Int32) : Int64 := if f_X5_isBeam b = true then (if (¬ (w < 0)) ∧ (w ≤ (4 : Int32)) then (bmV A.1 b w).toInt64 else rA) else rI
def countA (A : Ab) (w : Int32) : Int64 := if (¬ (w < 0)) ∧ (w ≤ (9 : Int32)) then (cntV A.1 A.2.2.1.length w).toInt64 else rA
def settingA (A : Ab) (k : Int32) : Int64 := if f_X5_isSetting k = true then (zse A.1 k.toNatClampNeg).toInt64 else rI
def ifPA (A : Ab) (n k w : Int32) : Int64 := if f_X5_isClock k = true then (if f_X5_areTicksOfACall n = true then (if (¬ (w < 0)) ∧ (w ≤ (2 : Int32)) then (ifV A.1 n.toNatClampNeg k.toNatClampNeg w).toInt64 else rA) else rA) else rI
def lockA (A : Ab) (k o : Int32) : Int64 := if f_X5_isPair k o = true then (uz k.toNatClampNeg o.toNatClampNeg 500 0 A.1).toInt64 else rI
def bestA (A : Ab) (b : Int32) : Int64 := if f_X5_isBeam b = true then (bestZ A.1 b.toNatClampNeg).toInt64 else rI
def nextV (A : Ab) : Int32 := nz 500 1 A.1
def digA (A : Ab) : Int64 := dgZ A.2.1.isSome A.1 A.2.2.1.length (bc A.2.2.2) A.2.2.2.length
/-! what stays so -/
/-- every state in it is so, with b ticks and kicks at most -/
def IA (b : Nat) (A : Ab) : Prop := IZ b A.1 ∧ (∀ z, A.2.1 = some z → IZ b z) ∧ (∀ z, z ∈ A.2.2.1 → IZ b z) ∧ A.2.2.1.length ≤ 6 ∧ A.2.2.2.length ≤ 60
theorem IA.mono {b b' : Nat} {A : Ab} (h : IA b A) (hb : b ≤ b') : IA b' A :=
  ⟨h.1.mono hb, fun z hz => (h.2.1 z hz).mono hb, fun z hz => (h.2.2.1 z hz).mono hb, h.2.2.2⟩
theorem IA.ns {b : Nat} {A : Ab} (h : IA b A) : NS (znt A.1) := h.1.2.2.2.1
theorem push_len {h : List StT} (hl : h.length ≤ 6) (z : StT) : (pushL h z).length = if h.length = 6 then 6 else h.length + 1 := by
  unfold pushL
  rw [List.length_append]
  split
  · rename_i c
    rw [List.length_tail, c]
    rfl
  · rfl
theorem push_mem {h : List StT} {z x : StT} (hx : x ∈ pushL h z) : x ∈ h ∨ x = z := by
  unfold pushL at hx
  rcases List.mem_append.mp hx with q | q
  · left
    split at q
    · exact List.mem_of_mem_tail q
    · exact q
  · exact Or.inr (List.mem_singleton.mp q)
theorem IA.new {b b' : Nat} {A : Ab} {z : StT} (h : IA b A) (hb : b ≤ b') (hz : IZ b' z) : IA b' (newA A z) := by
  obtain ⟨h1, h2, h3, h4, h5⟩ := h
  refine ⟨hz, fun y hy => (h2 y hy).mono hb, fun y hy => ?_, ?_, h5⟩
  · rcases push_mem hy with q | q
    · exact (h3 y q).mono hb
    · rw [q]
      exact h1.mono hb
  · show (pushL A.2.2.1 A.1).length ≤ 6
    rw [push_len h4]
    split <;> omega
theorem IZ_speed {b : Nat} {z : StT} (h : IZ b z) (k : Nat) {v : Int32} (hv : ¬ v < (10 : Int32) ∧ v ≤ (60 : Int32)) : IZ b (spZ z k v) := by
  obtain ⟨bm, sp, ph, sg, st, wy, ks, nt, gv, se, tk, kk, sk, pl, ld⟩ := z
  obtain ⟨h1, h2, h3, h4, h5, h6, h7⟩ := h
  refine ⟨h1, fun j hj => ?_, h3, h4, h5, h6, h7⟩
  show 10 ≤ (upd sp k v j).toInt ∧ (upd sp k v j).toInt ≤ 60
  by_cases e : j = k
  · subst e
    rw [pk_us]
    have z1 : (10 : Int32).toInt = 10 := rfl
    have z2 : (60 : Int32).toInt = 60 := rfl
    have h2 := Int32.le_iff_toInt_le.mp hv.2
    have h1 : ¬ v.toInt < (10 : Int32).toInt := fun q => hv.1 (Int32.lt_iff_toInt_lt.mpr q)
    omega
  · rw [pk_un e]
    exact h2 j hj
theorem IZ_give {b : Nat} {z : StT} (h : IZ b z) (k : Nat) {v : Int32} (hv : ¬ v < 0 ∧ v ≤ (20 : Int32)) : IZ b (gvZ z k v) := by
  obtain ⟨bm, sp, ph, sg, st, wy, ks, nt, gv, se, tk, kk, sk, pl, ld⟩ := z
  obtain ⟨h1, h2, h3, h4, h5, h6, h7⟩ := h
  refine ⟨h1, h2, h3, h4, fun j hj => ?_, h6, h7⟩
  show 0 ≤ (upd gv k v j).toInt ∧ (upd gv k v j).toInt ≤ 20
  by_cases e : j = k
  · subst e
    rw [pk_us]
    have z1 : (0 : Int32).toInt = 0 := rfl
    have z2 : (20 : Int32).toInt = 20 := rfl
    have h2 := Int32.le_iff_toInt_le.mp hv.2
    have h1 : ¬ v.toInt < (0 : Int32).toInt := fun q => hv.1 (Int32.lt_iff_toInt_lt.mpr q)
    omega
  · rw [pk_un e]
    exact h5 j hj
theorem IZ_set {b : Nat} {z : StT} (h : IZ b z) {k : Int32} (hk : f_X5_isSetting k = true) {v : Int32} (hv : ¬ v < f_X5_leastOfSetting k ∧ v ≤ f_X5_mostOfSetting k) : IZ b (seZ z k.toNatClampNeg v) := by
  obtain ⟨bm, sp, ph, sg, st, wy, ks, nt, gv, se, tk, kk, sk, pl, ld⟩ := z
  obtain ⟨h1, h2, h3, h4, h5, h6, h7⟩ := h
  have h6 : (0 ≤ (se 0).toInt ∧ (se 0).toInt ≤ 50) ∧ (0 ≤ (se 1).toInt ∧ (se 1).toInt ≤ 200) ∧ (1 ≤ (se 2).toInt ∧ (se 2).toInt ≤ 50) := h6
  have hv1 : ¬ v.toInt < (f_X5_leastOfSetting k).toInt := fun q => hv.1 (Int32.lt_iff_toInt_lt.mpr q)
  have hv2 := Int32.le_iff_toInt_le.mp hv.2
  have hk3 : k = 0 ∨ k = 1 ∨ k = 2 := by
    have e : k = nI k.toNatClampNeg := (vp_nI (vp_isBeam hk)).symm
    have hlt := vp_lt (vp_isBeam hk)
    have h3 : k.toNatClampNeg = 0 ∨ k.toNatClampNeg = 1 ∨ k.toNatClampNeg = 2 := by omega
    rcases h3 with q | q | q <;> rw [q] at e
    · exact Or.inl (e.trans (by decide +kernel))
    · exact Or.inr (Or.inl (e.trans (by decide +kernel)))
    · exact Or.inr (Or.inr (e.trans (by decide +kernel)))
  refine ⟨h1, h2, h3, h4, h5, ?_, h7⟩
  show (0 ≤ (upd se k.toNatClampNeg v 0).toInt ∧ (upd se k.toNatClampNeg v 0).toInt ≤ 50) ∧ (0 ≤ (upd se k.toNatClampNeg v 1).toInt ∧ (upd se k.toNatClampNeg v 1).toInt ≤ 200) ∧ (1 ≤ (upd se k.toNatClampNeg v 2).toInt ∧ (upd se k.toNatClampNeg v 2).toInt ≤ 50)
  rcases hk3 with q | q | q <;> subst q
  · rw [show (0 : Int32).toNatClampNeg = 0 by decide +kernel, pk_us, pk_un (show (1 : Nat) ≠ 0 by decide), pk_un (show (2 : Nat) ≠ 0 by decide)]
    have l : (f_X5_leastOfSetting 0).toInt = 0 := by decide +kernel
    have m : (f_X5_mostOfSetting 0).toInt = 50 := by decide +kernel
    omega
  · rw [show (1 : Int32).toNatClampNeg = 1 by decide +kernel, pk_us, pk_un (show (0 : Nat) ≠ 1 by decide), pk_un (show (2 : Nat) ≠ 1 by decide)]
    have l : (f_X5_leastOfSetting 1).toInt = 0 := by decide +kernel
    have m : (f_X5_mostOfSetting 1).toInt = 200 := by decide +kernel
    omega
  · rw [show (2 : Int32).toNatClampNeg = 2 by decide +kernel, pk_us, pk_un (show (0 : Nat) ≠ 2 by decide), pk_un (show (1 : Nat) ≠ 2 by decide)]
    have l : (f_X5_leastOfSetting 2).toInt = 1 := by decide +kernel
    have m : (f_X5_mostOfSetting 2).toInt = 50 := by decide +kernel
    omega
theorem ticks_le {n : Int32} (h : f_X5_areTicksOfACall n = true) : 1 ≤ n.toNatClampNeg ∧ n.toNatClampNeg ≤ 200 := by
  unfold f_X5_areTicksOfACall at h
  have z1 : (1 : Int32).toInt = 1 := rfl
  have z2 : (200 : Int32).toInt = 200 := rfl
  have e : (n.toNatClampNeg : Int) = n.toInt.toNat := by rw [← Int32.toNat_toInt]
  by_cases c : n < 1
  · rw [if_pos c] at h; cases h
  · rw [if_neg c] at h
    by_cases c2 : 200 < n
    · rw [if_pos c2] at h; cases h
    · have c : ¬ n.toInt < (1 : Int32).toInt := fun q => c (Int32.lt_iff_toInt_lt.mpr q)
      have c2 : ¬ (200 : Int32).toInt < n.toInt := fun q => c2 (Int32.lt_iff_toInt_lt.mpr q)
      omega
section KEEP
variable {b : Nat} {A : Ab}
theorem IA_pass (hb : b ≤ 900000) (h : IA b A) (n : Int32) : IA (b + 200) (passA A n).2 := by
  unfold passA
  split
  · rename_i c
    have hn := ticks_le c
    exact h.new (by omega) ((IZ_tks n.toNatClampNeg b (by omega) h.1).1.mono (by omega))
  · exact h.mono (by omega)
theorem IA_kick (hb : b ≤ 900000) (h : IA b A) (k v : Int32) : IA (b + 1) (kickA A k v).2 := by
  unfold kickA
  split
  · rename_i c
    split
    · rename_i c2
      have z1 : (-500 : Int32).toInt = -500 := rfl
      have z2 : (500 : Int32).toInt = 500 := rfl
      have q1 : ¬ v.toInt < (-500 : Int32).toInt := fun q => c2.2.1 (Int32.lt_iff_toInt_lt.mpr q)
      have q2 := Int32.le_iff_toInt_le.mp c2.2.2
      exact h.new (by omega) (IZ_kick (by omega) h.1 (vp_lt (vp_isClock c)) (by omega))
    · exact h.mono (by omega)
  · exact h.mono (by omega)
theorem IA_move (h : IA b A) (k v : Int32) : IA b (moveA A k v).2 := by
  unfold moveA
  split
  · rename_i c
    split
    · rename_i c2
      split
      · exact h.new (Nat.le_refl _) (IZ_move h.1 (vp_lt (vp_isClock c)) (vp_isBeam c2))
      · exact h
    · exact h
  · exact h
theorem IA_wind (h : IA b A) (k : Int32) : IA b (windA A k).2 := by
  unfold windA
  split
  · rename_i c
    exact h.new (Nat.le_refl _) (IZ_wind h.1 (vp_lt (vp_isClock c)))
  · exact h
theorem IA_speed (h : IA b A) (k v : Int32) : IA b (speedA A k v).2 := by
  unfold speedA
  split
  · split
    · rename_i c
      exact h.new (Nat.le_refl _) (IZ_speed h.1 _ c)
    · exact h
  · exact h
theorem IA_give (h : IA b A) (k v : Int32) : IA b (giveA A k v).2 := by
  unfold giveA
  split
  · split
    · rename_i c
      exact h.new (Nat.le_refl _) (IZ_give h.1 _ c)
    · exact h
  · exact h
theorem IA_set (h : IA b A) (k v : Int32) : IA b (setA A k v).2 := by
  unfold setA
  split
  · rename_i c
    split
    · rename_i c2
      exact h.new (Nat.le_refl _) (IZ_set h.1 c c2)
    · exact h
  · exact h
theorem IA_append (h : IA b A) (c : Int32) : IA b (appendA A c).2 := by
  unfold appendA
  split
  · split
    · rename_i c2
      have hl := ful_lt h.2.2.2.2 c2
      refine ⟨h.1, h.2.1, h.2.2.1, h.2.2.2.1, ?_⟩
      show (A.2.2.2 ++ [c]).length ≤ 60
      rw [List.length_append]
      exact hl
    · exact h
  · exact h
theorem IA_clear (h : IA b A) : IA b (clearA A) := ⟨h.1, h.2.1, h.2.2.1, h.2.2.2.1, Nat.zero_le _⟩
theorem IA_keep (h : IA b A) : IA b (keepA A) := ⟨h.1, fun z hz => by cases hz; exact h.1, h.2.2⟩
theorem IA_goBack (h : IA b A) : IA b (goBackA A).2 := by
  unfold goBackA
  split
  · exact h
  · rename_i z e
    exact h.new (Nat.le_refl _) (h.2.1 z e)
theorem IA_undo (h : IA b A) : IA b (undoA A).2 := by
  unfold undoA
  split
  · exact h
  · rename_i z e
    refine ⟨h.2.2.1 z (List.mem_of_getLast? e), h.2.1, fun y hy => h.2.2.1 y ((List.dropLast_sublist _).subset hy), ?_, h.2.2.2.2⟩
    show A.2.2.1.dropLast.length ≤ 6
    rw [List.length_dropLast]
    have := h.2.2.2.1
    omega
theorem IA_obey (hb : b ≤ 800000) (h : IA b A) : IA (b + 5940) (obeyA A).2 := by
  unfold obeyA
  split
  · rename_i c
    have hl := h.2.2.2.2
    have hg := cm_gc hl (L := 0) (K := 0) (N := 0) (B := false) c 0 0 0 false
    have hz := IZ_obr hl A.2.2.2.length 0 b (0, 0, 0, false, 0) 0 A.1 (Nat.zero_add _) (by omega) (Or.inl ⟨rfl, rfl⟩) hg h.1
    have h2 := h.new (b' := b + 5940) (by omega) (hz.mono (by omega))
    exact ⟨h2.1, h2.2.1, h2.2.2.1, h2.2.2.2.1, Nat.zero_le _⟩
  · exact h.mono (by omega)
end KEEP
