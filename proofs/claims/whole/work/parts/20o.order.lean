/-! an order, read by both -/
section ORD
variable {t : Nat → Int32} {len : Nat}
theorem clk_in (x : Int32) : f_X6_in x.toInt64 (0 : Int32).toInt64 (7 : Int32).toInt64 = f_X5_isClock x := by
  rw [Bool.eq_iff_iff, in_lit, isClock5]
  have z0 : (0 : Int32).toInt = 0 := rfl
  have z7 : (7 : Int32).toInt = 7 := rfl
  omega
theorem bm_in (x : Int32) : f_X6_in x.toInt64 (0 : Int32).toInt64 (2 : Int32).toInt64 = f_X5_isBeam x := by
  rw [Bool.eq_iff_iff, in_lit]
  have z0 : (0 : Int32).toInt = 0 := rfl
  have z2 : (2 : Int32).toInt = 2 := rfl
  constructor
  · intro h
    exact isBeam5 (vp_in_iff.mpr ⟨by omega, by omega⟩)
  · intro h
    have := vp_in_iff.mp (vp_isBeam h)
    omega
theorem no_clk (p : Nat) (h : len ≤ p) : f_X5_isClock (f_X6_here len p t - (48 : Int32)) = false := by
  rw [here_ge h]
  decide +kernel
theorem no_bm (p : Nat) (h : len ≤ p) : f_X5_isBeam (f_X6_here len p t - (48 : Int32)) = false := by
  rw [here_ge h]
  decide +kernel
theorem clk_step (L K N : Int32) (B : Bool) (p : Nat) : (f_X6_digit len p true t (0 : Int32) (7 : Int32) = (0, p, false) ∧ (p < len → (f5 (1, L, K, B, N) (t p)).1 = false)) ∨ (p < len ∧ vp_in (t p - (48 : Int32)) 8 ∧ f_X6_digit len p true t (0 : Int32) (7 : Int32) = (t p - (48 : Int32), p + 1, true) ∧ f5 (1, L, K, B, N) (t p) = (true, (if L = (107 : Int32) then 2 else (if L = (98 : Int32) then 3 else 6)), L, t p - (48 : Int32), B, N) ∧ ¬ t p = 59) := by
  rw [dg_eq, clk_in]
  by_cases c : f_X5_isClock (f_X6_here len p t - (48 : Int32)) = true
  · right
    have hp : p < len := by
      by_cases q : p < len
      · exact q
      · rw [no_clk p (by omega)] at c
        cases c
    rw [here_lt hp] at c
    rw [here_lt hp, if_pos c]
    refine ⟨hp, vp_isClock c, rfl, f5_1 c, fun q => ?_⟩
    rw [q] at c
    exact absurd c (by decide +kernel)
  · left
    rw [if_neg c]
    refine ⟨rfl, fun hp => ?_⟩
    rw [here_lt hp] at c
    exact f5_1n c
theorem bm_step (L K N : Int32) (B : Bool) (p : Nat) : (f_X6_digit len p true t (0 : Int32) (2 : Int32) = (0, p, false) ∧ (p < len → (f5 (3, L, K, B, N) (t p)).1 = false)) ∨ (p < len ∧ vp_in (t p - (48 : Int32)) 3 ∧ f_X6_digit len p true t (0 : Int32) (2 : Int32) = (t p - (48 : Int32), p + 1, true) ∧ f5 (3, L, K, B, N) (t p) = (true, 6, L, K, B, t p - (48 : Int32)) ∧ ¬ t p = 59) := by
  rw [dg_eq, bm_in]
  by_cases c : f_X5_isBeam (f_X6_here len p t - (48 : Int32)) = true
  · right
    have hp : p < len := by
      by_cases q : p < len
      · exact q
      · rw [no_bm p (by omega)] at c
        cases c
    rw [here_lt hp] at c
    rw [here_lt hp, if_pos c]
    refine ⟨hp, vp_isBeam c, rfl, f5_3 c, fun q => ?_⟩
    rw [q] at c
    exact absurd c (by decide +kernel)
  · left
    rw [if_neg c]
    refine ⟨rfl, fun hp => ?_⟩
    rw [here_lt hp] at c
    exact f5_3n c
theorem number_f (p : Nat) (most : Int32) : f_X6_number len p false t most = (1, p, false) := by
  unfold f_X6_number
  rw [dg_f]
  dsimp only
  rw [itx_r (r := ((1 : Int32), p))]
  · rfl
  · unfold L_X6_number_8
    rw [dg_f, if_neg Bool.false_ne_true]
/-- what an order does -/
def OX (rn : Bool) (c K : Int32) (B : Bool) (N : Int32) (now pulls : Nat → Int32) (at' : Nat) : Bool × Nat × Bool × (Nat → Int32) × (Nat → Int32) :=
  if rn = true then
    (if c = 98 then (if f_X6_beamOf now K.toNatClampNeg = N then (false, at', true, now, pulls) else (true, at', true, (f_X6_doMove now K.toNatClampNeg N).2, pulls))
     else if c = 107 then (true, at', true, (f_X6_doKick now K.toNatClampNeg (if B = true then -N else N)).2, pulls)
     else if c = 119 then (true, at', true, (f_X6_doWind now K.toNatClampNeg).2, pulls)
     else (true, at', true, (f_X6_goTicks pulls now N).2.2, (f_X6_goTicks pulls now N).2.1))
  else (true, at', true, now, pulls)
theorem order_ne {c : Int32} (h : ¬ c = (116 : Int32)) (p : Nat) (rn : Bool) (now pulls : Nat → Int32) : f_X6_order len p true rn now pulls t c = C_X6_order_18 len rn now pulls t c ((f_X6_digit len p true t (0 : Int32) (7 : Int32)).1.toNatClampNeg) (f_X6_digit len p true t (0 : Int32) (7 : Int32)).2.1 (f_X6_digit len p true t (0 : Int32) (7 : Int32)).2.2 := by
  unfold f_X6_order
  rw [if_neg h, if_neg h, if_neg h]
theorem c18_98 (rn : Bool) (now pulls : Nat → Int32) (k q : Nat) (gd : Bool) (v : Int32) (q' : Nat) (g : Bool) (hD : f_X6_digit len q gd t (0 : Int32) (2 : Int32) = (v, q', g)) : C_X6_order_18 len rn now pulls t 98 k q gd = (if g = true then (if rn = true then (if f_X6_beamOf now k = v then (false, q', g, now, pulls) else (true, q', g, (f_X6_doMove now k v).2, pulls)) else (true, q', g, now, pulls)) else (false, q', g, now, pulls)) := by
  unfold C_X6_order_18
  rw [if_pos rfl, hD]
  cases g
  · rfl
  · cases rn
    · rfl
    · by_cases c : f_X6_beamOf now k = v
      · show (if f_X6_beamOf now k = v then _ else _) = (if f_X6_beamOf now k = v then _ else _)
        rw [if_pos c, if_pos c]
      · show (if f_X6_beamOf now k = v then _ else _) = (if f_X6_beamOf now k = v then _ else _)
        rw [if_neg c, if_neg c]
        rfl
theorem c18_107 (rn : Bool) (now pulls : Nat → Int32) (k q : Nat) (gd b : Bool) (q1 : Nat) (v : Int32) (q' : Nat) (g : Bool) (hT : f_X6_take q gd (if (f_X6_here len q t) = (43 : Int32) then true else (if (f_X6_here len q t) = (45 : Int32) then true else false)) = (q1, b)) (hN : f_X6_number len q1 b t (500 : Int32) = (v, q', g)) : C_X6_order_18 len rn now pulls t 107 k q gd = (g, q', g, (if g = true then (if rn = true then (f_X6_doKick now k (if (f_X6_here len q t) = (43 : Int32) then v else (-v))).2 else now) else now), pulls) := by
  unfold C_X6_order_18
  rw [if_neg (show ¬ (107 : Int32) = 98 by decide), if_pos rfl, hT]
  dsimp only
  rw [hN]
theorem c18_119 (rn : Bool) (now pulls : Nat → Int32) (k q : Nat) (gd : Bool) : C_X6_order_18 len rn now pulls t 119 k q gd = (gd, q, gd, (if gd = true then (if rn = true then (f_X6_doWind now k).2 else now) else now), pulls) := by
  unfold C_X6_order_18
  rw [if_neg (show ¬ (119 : Int32) = 98 by decide), if_neg (show ¬ (119 : Int32) = 107 by decide), if_pos rfl]
theorem c18_116 (rn : Bool) (now pulls : Nat → Int32) (k q : Nat) (gd : Bool) (v : Int32) (q' : Nat) (g : Bool) (hN : f_X6_number len q gd t (99 : Int32) = (v, q', g)) : C_X6_order_18 len rn now pulls t 116 k q gd = (g, q', g, (if g = true then (if rn = true then (f_X6_goTicks pulls now v).2.2 else now) else now), (if g = true then (if rn = true then (f_X6_goTicks pulls now v).2.1 else pulls) else pulls)) := by
  unfold C_X6_order_18
  rw [if_neg (show ¬ (116 : Int32) = 98 by decide), if_neg (show ¬ (116 : Int32) = 107 by decide), if_neg (show ¬ (116 : Int32) = 119 by decide), hN]
/-- an order that isn't whole -/
def OBad (t : Nat → Int32) (len : Nat) (c : Int32) (p : Nat) (rn : Bool) (now pulls : Nat → Int32) (s1 : S5) : Prop :=
  ∃ n s', Tk t p n s1 s' ∧ p + n ≤ len ∧ (¬ s'.1 = 5 ∧ ¬ s'.1 = 6) ∧ (p + n < len → (f5 s' (t (p + n))).1 = false) ∧ f_X6_order len p true rn now pulls t c = (false, p + n, false, now, pulls)
/-- an order read whole -/
def OOk (t : Nat → Int32) (len : Nat) (c : Int32) (p : Nat) (rn : Bool) (now pulls : Nat → Int32) (s1 : S5) : Prop :=
  ∃ n K B N D, Tk t p n s1 (D, c, K, B, N) ∧ (D = 5 ∨ D = 6) ∧ 1 ≤ n ∧ p + n ≤ len ∧ (∀ i, i < n → ¬ t (p + i) = 59) ∧ (p + n < len → ¬ t (p + n) = 59 → (f5 (D, c, K, B, N) (t (p + n))).1 = false) ∧ f_X6_order len p true rn now pulls t c = OX rn c K B N now pulls (p + n) ∧ (¬ c = 116 → vp_in K 8) ∧ (c = 98 → vp_in N 3) ∧ (c = 107 → 1 ≤ N.toInt ∧ N.toInt ≤ 500)
theorem i2 {n : Nat} {P : Nat → Prop} (h0 : P 0) (h1 : ∀ i, i < n → P (1 + i)) : ∀ i, i < 1 + n → P i := fun i hi => by
  by_cases c : i = 0
  · rw [c]; exact h0
  · have := h1 (i - 1) (by omega)
    rw [show 1 + (i - 1) = i by omega] at this
    exact this
theorem ord_w (p : Nat) (hp : p ≤ len) (rn : Bool) (now pulls : Nat → Int32) (K0 N0 : Int32) (B0 : Bool) : OBad t len 119 p rn now pulls (1, 119, K0, B0, N0) ∨ OOk t len 119 p rn now pulls (1, 119, K0, B0, N0) := by
  have ho := order_ne (t := t) (len := len) (c := 119) (by decide) p rn now pulls
  rcases clk_step (t := t) (len := len) 119 K0 N0 B0 p with ⟨eD, hf⟩ | ⟨hlt, hv, eD, e5, h59⟩
  · left
    rw [eD, c18_119] at ho
    exact ⟨0, _, rfl, hp, (show ¬ (1 : Nat) = 5 ∧ ¬ (1 : Nat) = 6 by decide), hf, ho⟩
  · right
    rw [eD, c18_119] at ho
    refine ⟨1, t p - (48 : Int32), B0, N0, 6, Tk.one e5, Or.inr rfl, by omega, by omega, fun i hi => ?_, fun _ q => f5_6n q, ?_, fun _ => hv, fun q => absurd q (by decide), fun q => absurd q (by decide)⟩
    · rw [show i = 0 by omega]
      exact h59
    · rw [ho]
      unfold OX
      rw [if_neg (show ¬ (119 : Int32) = 98 by decide), if_neg (show ¬ (119 : Int32) = 107 by decide), if_pos rfl]
      cases rn <;> rfl
theorem ord_b (p : Nat) (hp : p ≤ len) (rn : Bool) (now pulls : Nat → Int32) (K0 N0 : Int32) (B0 : Bool) : OBad t len 98 p rn now pulls (1, 98, K0, B0, N0) ∨ OOk t len 98 p rn now pulls (1, 98, K0, B0, N0) := by
  have ho := order_ne (t := t) (len := len) (c := 98) (by decide) p rn now pulls
  rcases clk_step (t := t) (len := len) 98 K0 N0 B0 p with ⟨eD, hf⟩ | ⟨hlt, hv, eD, e5, h59⟩
  · left
    rw [eD, c18_98 (hD := dg_f p 0 2)] at ho
    exact ⟨0, _, rfl, hp, (show ¬ (1 : Nat) = 5 ∧ ¬ (1 : Nat) = 6 by decide), hf, ho⟩
  · have e5 : f5 (1, 98, K0, B0, N0) (t p) = (true, 3, 98, t p - (48 : Int32), B0, N0) := e5
    rw [eD] at ho
    rcases bm_step (t := t) (len := len) 98 (t p - (48 : Int32)) N0 B0 (p + 1) with ⟨eB, hf⟩ | ⟨hlt2, hv2, eB, e52, h592⟩
    · left
      rw [c18_98 (hD := eB)] at ho
      exact ⟨1, _, Tk.one e5, by omega, (show ¬ (3 : Nat) = 5 ∧ ¬ (3 : Nat) = 6 by decide), hf, ho⟩
    · right
      rw [c18_98 (hD := eB)] at ho
      refine ⟨1 + 1, t p - (48 : Int32), B0, t (p + 1) - (48 : Int32), 6, (Tk.one e5).add (Tk.one e52), Or.inr rfl, by omega, by omega, i2 h59 (fun i hi => ?_), fun _ q => f5_6n q, ?_, fun _ => hv, fun _ => hv2, fun q => absurd q (by decide)⟩
      · rw [show i = 0 by omega]
        exact h592
      · rw [ho, if_pos rfl]
        unfold OX
        rw [if_pos rfl]
theorem ord_t (hc : Chs t len) (hl : len ≤ 60) (p : Nat) (hp : p ≤ len) (rn : Bool) (now pulls : Nat → Int32) (K0 N0 : Int32) (B0 : Bool) : OBad t len 116 p rn now pulls (4, 116, K0, B0, N0) ∨ OOk t len 116 p rn now pulls (4, 116, K0, B0, N0) := by
  have ho : f_X6_order len p true rn now pulls t 116 = C_X6_order_18 len rn now pulls t 116 ((0 : Int32).toNatClampNeg) p true := by
    unfold f_X6_order
    rw [if_pos rfl, if_pos rfl, if_pos rfl]
  rcases num_eq hc hl 116 K0 N0 B0 p hp with ⟨eN, hf⟩ | ⟨m, v, eN, hT, h1, h2, h3, h4, h5, h6⟩
  · left
    rw [c18_116 (hN := eN)] at ho
    exact ⟨0, _, rfl, hp, (show ¬ (4 : Nat) = 5 ∧ ¬ (4 : Nat) = 6 by decide), hf, ho⟩
  · right
    rw [c18_116 (hN := eN)] at ho
    refine ⟨m, K0, B0, v, 5, hT, Or.inl rfl, h1, h2, h3, h4, ?_, fun q => absurd rfl q, fun q => absurd q (by decide), fun q => absurd q (by decide)⟩
    rw [ho]
    unfold OX
    rw [if_neg (show ¬ (116 : Int32) = 98 by decide), if_neg (show ¬ (116 : Int32) = 107 by decide), if_neg (show ¬ (116 : Int32) = 119 by decide)]
    cases rn <;> rfl
theorem ord_k (hc : Chs t len) (hl : len ≤ 60) (p : Nat) (hp : p ≤ len) (rn : Bool) (now pulls : Nat → Int32) (K0 N0 : Int32) (B0 : Bool) : OBad t len 107 p rn now pulls (1, 107, K0, B0, N0) ∨ OOk t len 107 p rn now pulls (1, 107, K0, B0, N0) := by
  have ho := order_ne (t := t) (len := len) (c := 107) (by decide) p rn now pulls
  rcases clk_step (t := t) (len := len) 107 K0 N0 B0 p with ⟨eD, hf⟩ | ⟨hlt, hv, eD, e5, h59⟩
  · left
    rw [eD, c18_107 (hT := take_f p _) (hN := number_f p 500)] at ho
    exact ⟨0, _, rfl, hp, (show ¬ (1 : Nat) = 5 ∧ ¬ (1 : Nat) = 6 by decide), hf, ho⟩
  · have e5 : f5 (1, 107, K0, B0, N0) (t p) = (true, 2, 107, t p - (48 : Int32), B0, N0) := e5
    rw [eD] at ho
    have ht := take_t (p + 1) (if (f_X6_here len (p + 1) t) = (43 : Int32) then true else (if (f_X6_here len (p + 1) t) = (45 : Int32) then true else false))
    by_cases cs : (if (f_X6_here len (p + 1) t) = (43 : Int32) then true else (if (f_X6_here len (p + 1) t) = (45 : Int32) then true else false)) = true
    · rw [cs] at ht
      have hlt2 : p + 1 < len := by
        by_cases q : p + 1 < len
        · exact q
        · rw [here_ge (by omega)] at cs
          exact absurd cs (by decide)
      have key : ∃ b : Bool, f5 (2, 107, t p - (48 : Int32), B0, N0) (t (p + 1)) = (true, 4, 107, t p - (48 : Int32), b, N0) ∧ ¬ t (p + 1) = 59 ∧ ∀ v : Int32, (if (f_X6_here len (p + 1) t) = (43 : Int32) then v else (-v)) = (if b = true then -v else v) := by
        rw [here_lt hlt2] at cs ⊢
        by_cases c1 : t (p + 1) = 43
        · exact ⟨false, f5_2p c1, by rw [c1]; decide, fun v => by rw [if_pos c1]; rfl⟩
        · rw [if_neg c1] at cs
          by_cases c2 : t (p + 1) = 45
          · exact ⟨true, f5_2m c2, by rw [c2]; decide, fun v => by rw [if_neg c1]; rfl⟩
          · rw [if_neg c2] at cs
            cases cs
      obtain ⟨b, e52, h592, ev⟩ := key
      rcases num_eq hc hl 107 (t p - (48 : Int32)) N0 b (p + 1 + 1) (by omega) with ⟨eN, hf⟩ | ⟨m, v, eN, hT, h1, h2, h3, h4, h5, h6⟩
      · left
        rw [c18_107 (hT := (by rw [cs]; exact ht)) (hN := eN)] at ho
        exact ⟨1 + 1, _, (Tk.one e5).add (Tk.one e52), by omega, (show ¬ (4 : Nat) = 5 ∧ ¬ (4 : Nat) = 6 by decide), hf, ho⟩
      · right
        rw [c18_107 (hT := (by rw [cs]; exact ht)) (hN := eN)] at ho
        have hT2 : Tk t p (1 + 1 + m) (1, 107, K0, B0, N0) (5, 107, t p - (48 : Int32), b, v) := ((Tk.one e5).add (Tk.one e52)).add hT
        have ei : p + (1 + 1 + m) = p + 1 + 1 + m := by omega
        refine ⟨1 + 1 + m, t p - (48 : Int32), b, v, 5, hT2, Or.inl rfl, by omega, by omega, ?_, ?_, ?_, fun _ => hv, fun q => absurd q (by decide), fun _ => ⟨h5, h6⟩⟩
        · rw [show 1 + 1 + m = 1 + (1 + m) by omega]
          refine i2 h59 (i2 h592 (fun i hi => ?_))
          have := h3 i hi
          rw [show p + 1 + 1 + i = p + (1 + (1 + i)) by omega] at this
          exact this
        · rw [ei]
          exact h4
        · rw [ho, if_pos rfl, ei, ev v]
          unfold OX
          rw [if_neg (show ¬ (107 : Int32) = 98 by decide), if_pos rfl]
          cases rn <;> rfl
    · left
      have cf : (if (f_X6_here len (p + 1) t) = (43 : Int32) then true else (if (f_X6_here len (p + 1) t) = (45 : Int32) then true else false)) = false := by
        cases q : (if (f_X6_here len (p + 1) t) = (43 : Int32) then true else (if (f_X6_here len (p + 1) t) = (45 : Int32) then true else false))
        · rfl
        · exact absurd q cs
      rw [cf] at ht
      rw [c18_107 (hT := (by rw [cf]; exact ht)) (hN := number_f _ 500)] at ho
      refine ⟨1, _, Tk.one e5, by omega, (show ¬ (2 : Nat) = 5 ∧ ¬ (2 : Nat) = 6 by decide), fun hlt2 => ?_, ho⟩
      rw [here_lt hlt2] at cs
      by_cases c1 : t (p + 1) = 43
      · rw [if_pos c1] at cs
        exact absurd rfl cs
      · rw [if_neg c1] at cs
        by_cases c2 : t (p + 1) = 45
        · rw [if_pos c2] at cs
          exact absurd rfl cs
        · exact f5_2n c1 c2
theorem ord_eq (hc : Chs t len) (hl : len ≤ 60) {c : Int32} (hL : isL c = true) (p : Nat) (hp : p ≤ len) (rn : Bool) (now pulls : Nat → Int32) (K0 N0 : Int32) (B0 : Bool) : OBad t len c p rn now pulls ((if c = (116 : Int32) then 4 else 1), c, K0, B0, N0) ∨ OOk t len c p rn now pulls ((if c = (116 : Int32) then 4 else 1), c, K0, B0, N0) := by
  unfold isL at hL
  by_cases c1 : c = 107
  · subst c1
    exact ord_k hc hl p hp rn now pulls K0 N0 B0
  · rw [if_neg c1] at hL
    by_cases c2 : c = 98
    · subst c2
      exact ord_b p hp rn now pulls K0 N0 B0
    · rw [if_neg c2] at hL
      by_cases c3 : c = 119
      · subst c3
        exact ord_w p hp rn now pulls K0 N0 B0
      · rw [if_neg c3] at hL
        by_cases c4 : c = 116
        · subst c4
          exact ord_t hc hl p hp rn now pulls K0 N0 B0
        · rw [if_neg c4] at hL
          cases hL
end ORD
